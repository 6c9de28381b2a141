section
/-! the other side's yard, whole -/
def yr_c0 (R0 R1 R2 : Nat) (J : Nat → Nat → Int32) : lb_C := fun a n => if a = 5 then J R0 n else if a ≤ 8 then J R1 (3 * n + (a - 6)) else J R2 (4 * n + (a - 9))
theorem yr_c0_C {R0 R1 R2 B Sg Ln : Nat} {J : Nat → Nat → Int32} (h1 : (R0 ≠ B ∧ R0 ≠ Sg ∧ R0 ≠ Ln) ∧ (R1 ≠ B ∧ R1 ≠ Sg ∧ R1 ≠ Ln) ∧ (R2 ≠ B ∧ R2 ≠ Sg ∧ R2 ≠ Ln)) (h2 : R0 ≠ R1 ∧ R0 ≠ R2 ∧ R1 ≠ R2) : yr_C R0 R1 R2 B Sg Ln (yr_c0 R0 R1 R2 J) J := ⟨h1, h2, fun n => rfl, fun n => ⟨rfl, rfl, rfl⟩, fun n => ⟨rfl, rfl, rfl, rfl⟩⟩
theorem ly_B_0 {pl : Nat → Nat} {v : Nat → Int} {M : nt_M} {j : Nat} {x : Int32} (hB : ly_B pl v M) (hb : (sx_iv (sx_tbs.getD 9 []) j).1 ≤ x.toInt ∧ x.toInt ≤ (sx_iv (sx_tbs.getD 9 []) j).2) : ly_B pl v (nt_sI M (pl 0) j x) := by
  refine ly_B_wI (g := 0) (q := (11, 0, 0, 9)) hB rfl (by decide) hb (fun c hc => ⟨fun z => ?_, fun _ => rfl⟩)
  have l := List.all_eq_true.mp (show ly_C.all (fun c => !Nat.beq c.1.1 0) = true from by decide +kernel) c hc
  rw [z.1] at l
  cases l
def kk_w_readsAllY2 : sx_K := (134, 5, ly_D, ([(0, 1, 1), (0, 7, 11), (0, 15, 17), (0, 19, 19), (0, 21, 21), (10, 0, 2147483647), (11, 0, 2147483647), (12, 0, 2147483647), (13, 0, 2147483647)], []), [(2, 0, (0, []))], (ly_C ++ [((0, (18, [])), (0, [(11, 1)]))], ly_R, (ly_b ++ [(11, 6, 6)], []), 12), [(some (0, 0, (0, [(12, 1)])), (ly_C, ly_R, ([(12, 0, 1)], []), 13))])
theorem kc_w_readsAllY2 : sx_wkc (sx_tbs, sx_gps) kk_readsAllY2 kk_w_readsAllY2 = true := by decide +kernel
theorem ko_w_readsAllY2 (X : nt_X) : sx_KOK X (sx_tbs, sx_gps) kk_w_readsAllY2 := sx_wk (sx_lift (by decide +kernel) (ko_readsAllY2 X)) kc_w_readsAllY2
theorem lq_readsB {X : nt_X} {pl : Nat → Nat} {v : Nat → Int} {M : nt_M} {d : Nat} {o : Option Value × nt_M} (hd : 5 ≤ d) (hB : ly_B pl v M) (h18 : nt_I M (pl 0) 18 = nI 6) (k : nt_ev X d 134 [.ref (pl 0)] M o) : ly_B pl v o.2 ∧ ∀ j, nt_I o.2 (pl 4) j = nt_I M (pl 4) j := by
  obtain ⟨r, hr, h11⟩ : ∃ r : Nat → Int, (∀ s, s < 11 → r s = v s) ∧ r 11 = 6 := ⟨fun s => if s = 11 then 6 else v s, fun s hs => if_neg (by omega), if_pos rfl⟩
  have hij := ly_ij (K := kk_w_readsAllY2) rfl hB
  have hon := ly_app (K := kk_w_readsAllY2) (ed := []) (ec := [((0, (18, [])), (0, [(11, 1)]))]) (er := []) rfl hB (fun _ _ => rfl) hr hij ly_nil (fun q hq => by
    rw [List.mem_singleton.mp hq]
    refine ⟨Or.inl (by show 0 < 66; decide), ?_⟩
    dsimp only
    rw [sx_c_e, sx_s_e, h11]
    unfold sx_rd
    rw [if_neg (by decide), if_neg (by decide)]
    show (nt_I M (pl 0) 18).toInt = 6
    rw [h18]
    decide) (fun q hq => by cases hq) (ly_oba (ly_obr hr (ly_ob hB)) (ly_ob1 (by omega))) ly_oc0
  obtain ⟨o', h1, p, hp, r', h2, h3⟩ := ly_run (ko_w_readsAllY2 X) hd (vs := [.ref (pl 0)]) ⟨rfl, trivial⟩ hon
  have e : o = o' := lz_det k h1
  subst e
  rw [List.mem_singleton.mp hp] at h3
  have hr' : ∀ s, s < 11 → r' s = v s := fun s hs => (h3.2.2.2.2.2.1 s (by show s < 12; omega)).trans (hr s hs)
  refine ⟨ly_bk (ed := []) rfl rfl (fun _ _ => rfl) h3 (ly_oiC (more := []) (fun _ _ => rfl) rfl h3.2.2.1 hr') (ly_or2 (more := []) (fun _ _ => rfl) h3.2.2.2.1), fun j => h3.2.2.2.2.2.2.2.1 _ j fun q hq hl hz => ?_⟩
  have e := hij 4 q.1 (by show 4 < 66; decide) hl hz.1
  have l := List.all_eq_true.mp (show kk_w_readsAllY2.2.2.2.1.1.all (fun q => !Nat.beq q.1 4) = true from by decide +kernel) q hq
  rw [← e] at l
  exact absurd l (by decide)
theorem lq_sp {pl : Nat → Nat} {v : Nat → Int} {M : nt_M} (hB : ly_B pl v M) {g : Nat} {q : Nat × Int × Int × Nat} (h : ly_E.2.1[g]? = some q) : pl g ≠ nt_sp := by
  have a := (hB.2.1.2 g q h).1
  have b : nt_n M ≤ nt_sp := hB.2.1.1
  omega
theorem lq_yardB {X : nt_X} {pl : Nat → Nat} {v : Nat → Int} {M M2 : nt_M} {y2 : Int32} {t : Nat} {f : Nat → Int32} (hB : ly_B pl v M) (ht : t ≤ 400) (h01 : nt_I M (pl 0) 1 = nI t) (hf : ∀ j, nt_I M (pl 8) j = f j) (k : nt_ev X 99 166 [.ref (pl 0)] M (some (.int y2), M2)) : ∃ r, (∃ n, lb_ya f t n 0 (lb_s f t 0, (0, 0, 0, 0, 0)) r) ∧ ((∃ c, r = .inl c ∧ y2 = Int32.ofInt (-2) - c ∧ ∀ j, nt_I M2 (pl 4) j = nt_I M (pl 4) j) ∨ ∃ u, r = .inr u ∧ y2 = nI u.2.2.1 ∧ lb_ub u.2 ∧ ∃ k D, lb_yaC f t k 0 (lb_s f t 0, (0, 0, 0, 0, 0)) u (yr_c0 (pl 11) (pl 12) (pl 13) (nt_I M)) D ∧ yf_R (nt_I M2 (pl 4)) u.2 D (nt_I M (pl 4) 9)) := by
  have ne : ∀ g h, g < 66 → h < 66 → g ≠ h → pl g ≠ pl h := fun g h hg hh e c => e (hB.1 g h hg hh c)
  have hW : yr_W M (pl 0) (pl 8) (pl 1) (pl 10) (pl 11) (pl 12) (pl 13) := ⟨⟨ly_ref (g := 0) (j := 12) (k := 11) hB (List.mem_of_getElem? (i := 23) rfl), ly_ref (g := 0) (j := 13) (k := 12) hB (List.mem_of_getElem? (i := 24) rfl), ly_ref (g := 0) (j := 14) (k := 13) hB (List.mem_of_getElem? (i := 25) rfl)⟩, ⟨ne 11 0 (by omega) (by omega) (by decide), ne 11 8 (by omega) (by omega) (by decide), ne 11 1 (by omega) (by omega) (by decide), ne 11 10 (by omega) (by omega) (by decide)⟩, ⟨ne 12 0 (by omega) (by omega) (by decide), ne 12 8 (by omega) (by omega) (by decide), ne 12 1 (by omega) (by omega) (by decide), ne 12 10 (by omega) (by omega) (by decide)⟩, ⟨ne 13 0 (by omega) (by omega) (by decide), ne 13 8 (by omega) (by omega) (by decide), ne 13 1 (by omega) (by omega) (by decide), ne 13 10 (by omega) (by omega) (by decide)⟩⟩
  have k : nt_rn X 99 166 (0, [(0, .ref (pl 0))], [], me_w M (nt_I M)) (some (.int y2), M2) := k
  have k := ly_revb 2 (c' := (3, [(0, .ref (pl 0))], [.int (Int32.ofInt 6), .ref (pl 0)], me_w M ((nt_I M)))) rfl k
  have k := me_put rfl (by decide) k
  have k : nt_rn X _ 166 (6, [(0, .ref (pl 0))], [], me_w M (nt_u ((nt_I M)) (pl 0) 18 (Int32.ofInt 6))) _ := k
  have k := ly_revb 2 (c' := (8, [(0, .ref (pl 0))], [.int (Int32.ofInt 0), .ref (pl 0)], me_w M (nt_u ((nt_I M)) (pl 0) 18 (Int32.ofInt 6)))) rfl k
  have k := me_put rfl (by decide) k
  have k : nt_rn X _ 166 (11, [(0, .ref (pl 0))], [], me_w M (nt_u (nt_u ((nt_I M)) (pl 0) 18 (Int32.ofInt 6)) (pl 0) 7 (Int32.ofInt 0))) _ := k
  have k := ly_revb 2 (c' := (13, [(0, .ref (pl 0))], [.int (Int32.ofInt 0), .ref (pl 0)], me_w M (nt_u (nt_u ((nt_I M)) (pl 0) 18 (Int32.ofInt 6)) (pl 0) 7 (Int32.ofInt 0)))) rfl k
  have k := me_put rfl (by decide) k
  have k : nt_rn X _ 166 (16, [(0, .ref (pl 0))], [], me_w M (nt_u (nt_u (nt_u ((nt_I M)) (pl 0) 18 (Int32.ofInt 6)) (pl 0) 7 (Int32.ofInt 0)) (pl 0) 8 (Int32.ofInt 0))) _ := k
  have k := ly_revb 2 (c' := (18, [(0, .ref (pl 0))], [.int (Int32.ofInt 0), .ref (pl 0)], me_w M (nt_u (nt_u (nt_u ((nt_I M)) (pl 0) 18 (Int32.ofInt 6)) (pl 0) 7 (Int32.ofInt 0)) (pl 0) 8 (Int32.ofInt 0)))) rfl k
  have k := me_put rfl (by decide) k
  have k : nt_rn X _ 166 (21, [(0, .ref (pl 0))], [], me_w M (nt_u (nt_u (nt_u (nt_u ((nt_I M)) (pl 0) 18 (Int32.ofInt 6)) (pl 0) 7 (Int32.ofInt 0)) (pl 0) 8 (Int32.ofInt 0)) (pl 0) 9 (Int32.ofInt 0))) _ := k
  have k := ly_revb 2 (c' := (23, [(0, .ref (pl 0))], [.int (Int32.ofInt 0), .ref (pl 0)], me_w M (nt_u (nt_u (nt_u (nt_u ((nt_I M)) (pl 0) 18 (Int32.ofInt 6)) (pl 0) 7 (Int32.ofInt 0)) (pl 0) 8 (Int32.ofInt 0)) (pl 0) 9 (Int32.ofInt 0)))) rfl k
  have k := me_put rfl (by decide) k
  have k : nt_rn X _ 166 (26, [(0, .ref (pl 0))], [], me_w M (nt_u (nt_u (nt_u (nt_u (nt_u ((nt_I M)) (pl 0) 18 (Int32.ofInt 6)) (pl 0) 7 (Int32.ofInt 0)) (pl 0) 8 (Int32.ofInt 0)) (pl 0) 9 (Int32.ofInt 0)) (pl 0) 10 (Int32.ofInt 0))) _ := k
  have k := ly_revb 2 (c' := (28, [(0, .ref (pl 0))], [.int (Int32.ofInt (-1)), .ref (pl 0)], me_w M (nt_u (nt_u (nt_u (nt_u (nt_u ((nt_I M)) (pl 0) 18 (Int32.ofInt 6)) (pl 0) 7 (Int32.ofInt 0)) (pl 0) 8 (Int32.ofInt 0)) (pl 0) 9 (Int32.ofInt 0)) (pl 0) 10 (Int32.ofInt 0)))) rfl k
  have k := me_put rfl (by decide) k
  have k : nt_rn X _ 166 (31, [(0, .ref (pl 0))], [], me_w M (nt_u (nt_u (nt_u (nt_u (nt_u (nt_u ((nt_I M)) (pl 0) 18 (Int32.ofInt 6)) (pl 0) 7 (Int32.ofInt 0)) (pl 0) 8 (Int32.ofInt 0)) (pl 0) 9 (Int32.ofInt 0)) (pl 0) 10 (Int32.ofInt 0)) (pl 0) 11 (Int32.ofInt (-1)))) _ := k
  have k := ly_revb 1 (c' := (32, [(0, .ref (pl 0))], [.ref (pl 0)], me_w M (nt_u (nt_u (nt_u (nt_u (nt_u (nt_u ((nt_I M)) (pl 0) 18 (Int32.ofInt 6)) (pl 0) 7 (Int32.ofInt 0)) (pl 0) 8 (Int32.ofInt 0)) (pl 0) 9 (Int32.ofInt 0)) (pl 0) 10 (Int32.ofInt 0)) (pl 0) 11 (Int32.ofInt (-1))))) rfl k
  obtain ⟨d1, o1, ed, kc, k⟩ := lz_c (g := 134) (q := 1) (vs := [.ref (pl 0)]) (rest := []) rfl rfl (by decide) (Or.inr (Or.inl ⟨_, rfl, rfl⟩)) rfl k
  have ed : d1 = 98 := by omega
  subst ed
  have hB6 : ly_B pl v (me_w M (nt_u (nt_u (nt_u (nt_u (nt_u (nt_u (nt_I M) (pl 0) 18 (Int32.ofInt 6)) (pl 0) 7 (Int32.ofInt 0)) (pl 0) 8 (Int32.ofInt 0)) (pl 0) 9 (Int32.ofInt 0)) (pl 0) 10 (Int32.ofInt 0)) (pl 0) 11 (Int32.ofInt (-1)))) := ly_B_0 (ly_B_0 (ly_B_0 (ly_B_0 (ly_B_0 (ly_B_0 (hB) (show (sx_iv (sx_tbs.getD 9 []) 18).1 ≤ (Int32.ofInt 6 : Int32).toInt ∧ (Int32.ofInt 6 : Int32).toInt ≤ (sx_iv (sx_tbs.getD 9 []) 18).2 by decide)) (show (sx_iv (sx_tbs.getD 9 []) 7).1 ≤ (Int32.ofInt 0 : Int32).toInt ∧ (Int32.ofInt 0 : Int32).toInt ≤ (sx_iv (sx_tbs.getD 9 []) 7).2 by decide)) (show (sx_iv (sx_tbs.getD 9 []) 8).1 ≤ (Int32.ofInt 0 : Int32).toInt ∧ (Int32.ofInt 0 : Int32).toInt ≤ (sx_iv (sx_tbs.getD 9 []) 8).2 by decide)) (show (sx_iv (sx_tbs.getD 9 []) 9).1 ≤ (Int32.ofInt 0 : Int32).toInt ∧ (Int32.ofInt 0 : Int32).toInt ≤ (sx_iv (sx_tbs.getD 9 []) 9).2 by decide)) (show (sx_iv (sx_tbs.getD 9 []) 10).1 ≤ (Int32.ofInt 0 : Int32).toInt ∧ (Int32.ofInt 0 : Int32).toInt ≤ (sx_iv (sx_tbs.getD 9 []) 10).2 by decide)) (show (sx_iv (sx_tbs.getD 9 []) 11).1 ≤ (Int32.ofInt (-1) : Int32).toInt ∧ (Int32.ofInt (-1) : Int32).toInt ≤ (sx_iv (sx_tbs.getD 9 []) 11).2 by decide)
  obtain ⟨hBR, h4R⟩ := lq_readsB (by decide) hB6 (show (nt_u (nt_u (nt_u (nt_u (nt_u (nt_u (nt_I M) (pl 0) 18 (Int32.ofInt 6)) (pl 0) 7 (Int32.ofInt 0)) (pl 0) 8 (Int32.ofInt 0)) (pl 0) 9 (Int32.ofInt 0)) (pl 0) 10 (Int32.ofInt 0)) (pl 0) 11 (Int32.ofInt (-1))) (pl 0) 18 = nI 6 from (me_uk (by decide)).trans ((me_uk (by decide)).trans ((me_uk (by decide)).trans ((me_uk (by decide)).trans ((me_uk (by decide)).trans (me_us)))))) kc
  have n80 := ne 8 0 (by omega) (by omega) (by decide)
  have hP : md_P M (nt_u (nt_u (nt_u (nt_u (nt_u (nt_u (nt_I M) (pl 0) 18 (Int32.ofInt 6)) (pl 0) 7 (Int32.ofInt 0)) (pl 0) 8 (Int32.ofInt 0)) (pl 0) 9 (Int32.ofInt 0)) (pl 0) 10 (Int32.ofInt 0)) (pl 0) 11 (Int32.ofInt (-1))) f t 6 (pl 0) (pl 8) (pl 1) (pl 10) := ⟨⟨ly_ref (g := 0) (j := 0) (k := 8) hB (List.mem_of_getElem? (i := 20) rfl), ly_ref (g := 0) (j := 3) (k := 1) hB (List.mem_of_getElem? (i := 13) rfl), ly_ref (g := 0) (j := 4) (k := 10) hB (List.mem_of_getElem? (i := 22) rfl)⟩, ⟨ne 8 0 (by omega) (by omega) (by decide), ne 8 1 (by omega) (by omega) (by decide), ne 8 10 (by omega) (by omega) (by decide), ne 0 1 (by omega) (by omega) (by decide), ne 0 10 (by omega) (by omega) (by decide), ne 1 10 (by omega) (by omega) (by decide)⟩, (me_uk (by decide)).trans ((me_uk (by decide)).trans ((me_uk (by decide)).trans ((me_uk (by decide)).trans ((me_uk (by decide)).trans ((me_uk (by decide)).trans (h01)))))), (me_uk (by decide)).trans ((me_uk (by decide)).trans ((me_uk (by decide)).trans ((me_uk (by decide)).trans ((me_uk (by decide)).trans (me_us))))), fun j => (me_uj n80).trans ((me_uj n80).trans ((me_uj n80).trans ((me_uj n80).trans ((me_uj n80).trans ((me_uj n80).trans (hf j)))))), ht, by decide, by have := (hB.2.1.2 1 _ (show ly_E.2.1[1]? = some (13, 2400, 2400, 0) from rfl)).2.2.1; dsimp only at this; omega, lq_sp hB (show ly_E.2.1[1]? = some (13, 2400, 2400, 0) from rfl), lq_sp hB (show ly_E.2.1[10]? = some (13, 7, 7, 13) from rfl)⟩
  obtain ⟨r, a, J', e1, hya, hfin⟩ := yr_reads hW hP ⟨(me_uk (by decide)).trans ((me_uk (by decide)).trans ((me_uk (by decide)).trans ((me_uk (by decide)).trans (me_us)))), (me_uk (by decide)).trans ((me_uk (by decide)).trans ((me_uk (by decide)).trans (me_us))), (me_uk (by decide)).trans ((me_uk (by decide)).trans (me_us)), (me_uk (by decide)).trans (me_us), me_us⟩ (yr_Cr (yr_c0_C (J := nt_I M) ⟨⟨ne 11 0 (by omega) (by omega) (by decide), ne 11 1 (by omega) (by omega) (by decide), ne 11 10 (by omega) (by omega) (by decide)⟩, ⟨ne 12 0 (by omega) (by omega) (by decide), ne 12 1 (by omega) (by omega) (by decide), ne 12 10 (by omega) (by omega) (by decide)⟩, ⟨ne 13 0 (by omega) (by omega) (by decide), ne 13 1 (by omega) (by omega) (by decide), ne 13 10 (by omega) (by omega) (by decide)⟩⟩ ⟨ne 11 12 (by omega) (by omega) (by decide), ne 11 13 (by omega) (by omega) (by decide), ne 12 13 (by omega) (by omega) (by decide)⟩) (fun a z1 _ _ => (me_uo z1).trans ((me_uo z1).trans ((me_uo z1).trans ((me_uo z1).trans ((me_uo z1).trans (me_uo z1))))))) kc
  subst e1
  have hBR : ly_B pl v (me_w M J') := hBR
  have h4S : ∀ j, J' (pl 4) j = nt_I M (pl 4) j := by
    intro j
    have q : J' (pl 4) j = (nt_u (nt_u (nt_u (nt_u (nt_u (nt_u (nt_I M) (pl 0) 18 (Int32.ofInt 6)) (pl 0) 7 (Int32.ofInt 0)) (pl 0) 8 (Int32.ofInt 0)) (pl 0) 9 (Int32.ofInt 0)) (pl 0) 10 (Int32.ofInt 0)) (pl 0) 11 (Int32.ofInt (-1))) (pl 4) j := h4R j
    rw [q, me_uo (ne 4 0 (by omega) (by omega) (by decide)), me_uo (ne 4 0 (by omega) (by omega) (by decide)), me_uo (ne 4 0 (by omega) (by omega) (by decide)), me_uo (ne 4 0 (by omega) (by omega) (by decide)), me_uo (ne 4 0 (by omega) (by omega) (by decide)), me_uo (ne 4 0 (by omega) (by omega) (by decide))]
  rcases hfin with ⟨c, rfl, hc, rfl, w16⟩ | ⟨w, D, rfl, rfl, hub, ⟨k0, hyC⟩, hE⟩
  · have k : nt_rn X _ 166 (35, [(0, .ref (pl 0))], [.int (Int32.ofInt 0)], me_w M (J')) _ := k
    have k := ly_revb 1 (c' := (if (Int32.ofInt 0) = 0 then 38 else 46, [(0, .ref (pl 0))], [], me_w M (J'))) rfl k
    rw [if_pos (show (Int32.ofInt 0) = 0 from by decide)] at k
    have k := ly_revb 2 (c' := (41, [(0, .ref (pl 0))], [.ref (pl 0), .int (Int32.ofInt (-2))], me_w M (J'))) rfl k
    have k := lz_get (a := (pl 0)) (g := 1116) (M := me_w M (J')) (v := .int (c)) rfl (congrArg Value.int (w16)) k
    have k := ly_revb 1 (c' := (45, [(0, .ref (pl 0))], [.int ((Int32.ofInt (-2)) - c)], me_w M (J'))) rfl k
    have k := lz_ri rfl (by decide) k
    exact ⟨_, hya, Or.inl ⟨c, rfl, (lq_out k).1, fun j => by rw [(lq_out k).2]; exact h4S j⟩⟩
  · have k : nt_rn X _ 166 (35, [(0, .ref (pl 0))], [.int (Int32.ofInt 1)], me_w M (J')) _ := k
    have k := ly_revb 1 (c' := (if (Int32.ofInt 1) = 0 then 38 else 46, [(0, .ref (pl 0))], [], me_w M (J'))) rfl k
    rw [if_neg (show ¬ ((Int32.ofInt 1) = 0) from by decide)] at k
    have e9 := xt166F (p := pl) (J := J') (zz_P hB) k
    obtain ⟨z1, z2⟩ := yf_row (p := pl) (zz_ne hB) hub hE
    have eM := (lq_out e9).2
    have ey := (lq_out e9).1
    refine ⟨_, hya, Or.inr ⟨w, rfl, ey.trans z1, hub, k0, D, hyC, ?_⟩⟩
    rw [show nt_I M2 = (x166F pl J').2 from by rw [eM]; rfl, ← h4S 9]
    exact z2
end
section
/-! a new yard is the same on both sides -/
theorem yg_0 {q : Nat → Nat} {v : Int32} {J : Nat → Nat → Int32} (hq : zq q) : (x64 q v J (q 0) 1 = Int32.ofInt 1 ∧ x64 q v J (q 0) 2 = Int32.ofInt 0 ∧ x64 q v J (q 0) 3 = Int32.ofInt 0 ∧ x64 q v J (q 0) 4 = Int32.ofInt 0 ∧ x64 q v J (q 0) 5 = Int32.ofInt 0) ∧ (∀ j, j < 6 → x64 q v J (q 10) j = Int32.ofInt 0 ∧ x64 q v J (q 11) j = Int32.ofInt 0 ∧ x64 q v J (q 12) j = Int32.ofInt (-1)) ∧ (∀ j, j < 24 → x64 q v J (q 13) j = J (q 4) j ∧ x64 q v J (q 14) j = Int32.ofInt (-1) ∧ x64 q v J (q 15) j = vp_nar .boolean (Int32.ofInt 0)) ∧ (∀ j, j < 8 → x64 q v J (q 16) j = Int32.ofInt 0) := by
  have ne : ∀ i j, i < 17 → j < 17 → i ≠ j → q i ≠ q j := hq
  unfold x64
  obtain ⟨JA, hA⟩ : ∃ JA, JA = nt_u (nt_u (nt_u (nt_u (nt_u (nt_u J (q 0) 1 (Int32.ofInt 1)) (q 0) 2 (Int32.ofInt 0)) (q 0) 3 (Int32.ofInt 0)) (q 0) 4 (Int32.ofInt 0)) (q 0) 5 (Int32.ofInt 0)) (q 0) 6 v := ⟨_, rfl⟩
  rw [← hA]
  obtain ⟨JB, hB⟩ : ∃ JB, JB = x64_32 q ((Int32.ofInt 6).toNatClampNeg) (Int32.ofInt 0) JA := ⟨_, rfl⟩
  rw [← hB]
  obtain ⟨JC, hC⟩ : ∃ JC, JC = x64_67 q ((Int32.ofInt 24).toNatClampNeg) (Int32.ofInt 0) JB := ⟨_, rfl⟩
  rw [← hC]
  obtain ⟨JD, hD⟩ : ∃ JD, JD = x64_110 q ((Int32.ofInt 8).toNatClampNeg) (Int32.ofInt 0) JC := ⟨_, rfl⟩
  rw [← hD]
  have vB := yg_32 hq 6 0 JA (by omega) (by omega)
  have eJB : x64_32 q 6 (nI 0) JA = JB := hB.symm
  rw [eJB] at vB
  have vC := yg_67 hq 24 0 JB (by omega) (by omega)
  have eJC : x64_67 q 24 (nI 0) JB = JC := hC.symm
  rw [eJC] at vC
  have vD := yg_110 hq 8 0 JC (by omega) (by omega)
  have eJD : x64_110 q 8 (nI 0) JC = JD := hD.symm
  rw [eJD] at vD
  have fD : ∀ i, i < 16 → JD (q i) = JC (q i) := fun i hi => by
    rw [hD]
    exact x64_110_frJ _ _ _ (ne i 16 (by omega) (by omega) (by omega))
  have fC : ∀ i, i < 17 → i ≠ 13 → i ≠ 14 → i ≠ 15 → JC (q i) = JB (q i) := fun i hi a b c => by
    rw [hC]
    exact x64_67_frJ _ _ _ (ne i 13 hi (by omega) a) (ne i 14 hi (by omega) b) (ne i 15 hi (by omega) c)
  have fB : ∀ i, i < 17 → i ≠ 10 → i ≠ 11 → i ≠ 12 → JB (q i) = JA (q i) := fun i hi a b c => by
    rw [hB]
    exact x64_32_frJ _ _ _ (ne i 10 hi (by omega) a) (ne i 11 hi (by omega) b) (ne i 12 hi (by omega) c)
  have e0 : JD (q 0) = JA (q 0) := by rw [fD 0 (by omega), fC 0 (by omega) (by decide) (by decide) (by decide), fB 0 (by omega) (by decide) (by decide) (by decide)]
  have e4 : JB (q 4) = J (q 4) := by
    have n4 := ne 4 0 (by omega) (by omega) (by decide)
    rw [fB 4 (by omega) (by decide) (by decide) (by decide), hA, me_uo n4, me_uo n4, me_uo n4, me_uo n4, me_uo n4, me_uo n4]
  refine ⟨⟨?_, ?_, ?_, ?_, ?_⟩, fun j hj => ⟨?_, ?_, ?_⟩, fun j hj => ⟨?_, ?_, ?_⟩, fun j hj => ?_⟩
  · rw [e0, hA, me_uk (by decide), me_uk (by decide), me_uk (by decide), me_uk (by decide), me_uk (by decide), me_us]
  · rw [e0, hA, me_uk (by decide), me_uk (by decide), me_uk (by decide), me_uk (by decide), me_us]
  · rw [e0, hA, me_uk (by decide), me_uk (by decide), me_uk (by decide), me_us]
  · rw [e0, hA, me_uk (by decide), me_uk (by decide), me_us]
  · rw [e0, hA, me_uk (by decide), me_us]
  · rw [fD 10 (by omega), fC 10 (by omega) (by decide) (by decide) (by decide), vB.1 j, if_pos (by omega)]
  · rw [fD 11 (by omega), fC 11 (by omega) (by decide) (by decide) (by decide), vB.2.1 j, if_pos (by omega)]
  · rw [fD 12 (by omega), fC 12 (by omega) (by decide) (by decide) (by decide), vB.2.2 j, if_pos (by omega)]
  · rw [fD 13 (by omega), vC.1 j, if_pos (by omega), e4]
  · rw [fD 14 (by omega), vC.2.1 j, if_pos (by omega)]
  · rw [fD 15 (by omega), vC.2.2 j, if_pos (by omega)]
  · rw [vD j, if_pos (by omega)]
theorem yg_fr {q : Nat → Nat} {v : Int32} {J : Nat → Nat → Int32} (hq : zq q) (i : Nat) (h1 : 1 ≤ i) (h2 : i ≤ 9) : x64 q v J (q i) = J (q i) := x64_frJ (hq i 0 (by omega) (by omega) (by omega)) (hq i 10 (by omega) (by omega) (by omega)) (hq i 11 (by omega) (by omega) (by omega)) (hq i 12 (by omega) (by omega) (by omega)) (hq i 13 (by omega) (by omega) (by omega)) (hq i 14 (by omega) (by omega) (by omega)) (hq i 15 (by omega) (by omega) (by omega)) (hq i 16 (by omega) (by omega) (by omega))
theorem yy_R {q : Nat → Nat} {JY : Nat → Nat → Int32} {e : Nat → Int32} {u : Nat × Nat × Nat × Nat × Nat} {D D' : lb_C} {x x' : Int32} (hq : zq q) (hub : lb_ub u) (hk1 : 1 ≤ u.1) (hY : (JY (q 1) 0 = nI u.1 ∧ JY (q 1) 1 = nI u.2.1 ∧ JY (q 1) 2 = nI u.2.2.1 ∧ JY (q 1) 3 = nI u.2.2.2.1 ∧ JY (q 1) 4 = nI (lb_hd u.2.2.2.2)) ∧ ∀ i, 5 ≤ i → i ≤ 12 → ∀ j, JY (q (i - 3)) j = D i j) (hk : yk u D D') (hR : yf_R e u D' x) (hw : xr_W e) : zz_R q (x64 q x' JY) e := by
  obtain ⟨⟨c0, c1, c2, c3, c4⟩, rows⟩ := hY
  obtain ⟨b1, b2, b3, b4, b5⟩ := hub
  obtain ⟨⟨k1, k2, k3⟩, l1, l2, l3⟩ := hk
  obtain ⟨⟨r0, r1, r2, r3⟩, ⟨r4, r5, r6, r7, r8, r9⟩, rs, rp, rv⟩ := hR
  obtain ⟨g0, gs, gp, gv⟩ := yg_0 (v := x') (J := JY) hq
  have fr := yg_fr (v := x') (J := JY) hq
  obtain ⟨K, S, P, V, h⟩ := u
  dsimp only at b1 b2 b3 b4 b5 k1 k2 k3 l1 l2 l3 r0 r1 r2 r3 r5 rs rp rv c0 c1 c2 c3 c4 hk1
  have z0 : zn e 0 = K := by unfold zn; rw [r0, nI_clamp (by omega)]
  have z1 : zn e 1 = S := by unfold zn; rw [r1, nI_clamp (by omega)]
  have z2 : zn e 2 = P := by unfold zn; rw [r2, nI_clamp (by omega)]
  have z3 : zn e 3 = V := by unfold zn; rw [r3, nI_clamp (by omega)]
  have t0 : (e 0).toInt = K := by rw [r0, nI_toInt (by omega)]
  have t1 : (e 1).toInt = S := by rw [r1, nI_toInt (by omega)]
  have m1 : (Int32.ofInt (-1)).toInt = -1 := by decide
  have hd30 : lb_hd h ≤ 30 := by
    unfold lb_hd
    split <;> omega
  have d5 : (e 5).toInt = (lb_hd h : Nat) := by rw [r5, nI_toInt (by omega)]
  have i0 : (0 : Int32).toInt = 0 := by decide
  refine ⟨⟨fun j hj => ?_, ?_⟩, ⟨hw, ⟨?_, ?_, ?_, ?_, ?_⟩, ⟨?_, ?_⟩, ⟨?_, ?_, ?_, ?_⟩, ⟨?_, ?_, ?_⟩⟩, ?_, ?_⟩
  · unfold zv at hj
    rw [z0, z1, z2, z3] at hj
    rcases hj with hj | ⟨h1, h2, h3, h4⟩ | ⟨h1, h2, h3⟩ | ⟨h1, h2, h3⟩
    · rcases (by omega : j = 0 ∨ j = 1 ∨ j = 2 ∨ j = 3 ∨ j = 4 ∨ j = 5 ∨ j = 6 ∨ j = 7 ∨ j = 8) with rfl | rfl | rfl | rfl | rfl | rfl | rfl | rfl | rfl
      · show x64 q x' JY (q 1) 0 = e 0
        rw [fr 1 (by omega) (by omega), c0, r0]
      · show x64 q x' JY (q 1) 1 = e 1
        rw [fr 1 (by omega) (by omega), c1, r1]
      · show x64 q x' JY (q 1) 2 = e 2
        rw [fr 1 (by omega) (by omega), c2, r2]
      · show x64 q x' JY (q 1) 3 = e 3
        rw [fr 1 (by omega) (by omega), c3, r3]
      · show x64 q x' JY (q 0) 2 = e 4
        rw [g0.2.1, r4]
        rfl
      · show x64 q x' JY (q 1) 4 = e 5
        rw [fr 1 (by omega) (by omega), c4, r5]
      · show x64 q x' JY (q 0) 3 = e 6
        rw [g0.2.2.1, r6]
        rfl
      · show x64 q x' JY (q 0) 5 = e 7
        rw [g0.2.2.2.2, r7]
        rfl
      · show x64 q x' JY (q 0) 4 = e 8
        rw [g0.2.2.2.1, r8]
        rfl
    · obtain ⟨s, k, hs, hk, rfl⟩ : ∃ s k, s < S ∧ k < 7 ∧ j = 10 + 7 * s + k := ⟨(j - 10) / 7, (j - 10) % 7, by omega, by omega, by omega⟩
      rw [show (10 + 7 * s + k - 10) % 7 = k from by omega] at h4
      by_cases k4 : k < 4
      · rw [zc_m s (by omega) k k4]
        show x64 q x' JY (q 2) (4 * s + k) = _
        rw [fr 2 (by omega) (by omega), rows 5 (by omega) (by omega), k1 s k hs (h4 k4), (rs s hs).1 k (h4 k4)]
      · rcases (by omega : k = 4 ∨ k = 5 ∨ k = 6) with rfl | rfl | rfl
        · rw [zc_s4 s (by omega), (rs s hs).2.1]
          exact (gs s (by omega)).1
        · rw [zc_s5 s (by omega), (rs s hs).2.2.1]
          exact (gs s (by omega)).2.2
        · rw [zc_s6 s (by omega), (rs s hs).2.2.2]
          exact (gs s (by omega)).2.1
    · obtain ⟨n, k, hn, hk, rfl⟩ : ∃ n k, n < P ∧ k < 5 ∧ j = 52 + 5 * n + k := ⟨(j - 52) / 5, (j - 52) % 5, by omega, by omega, by omega⟩
      have y := k2 n hn
      have w := rp n hn
      rcases (by omega : k = 0 ∨ k = 1 ∨ k = 2 ∨ k = 3 ∨ k = 4) with rfl | rfl | rfl | rfl | rfl
      · rw [zc_p0 n (by omega), w.1, ← y.1, ← rows 6 (by omega) (by omega)]
        exact congrFun (fr 3 (by omega) (by omega)) _
      · rw [zc_p1 n (by omega), w.2.1, ← y.2.1, ← rows 7 (by omega) (by omega)]
        exact (gp n (by omega)).1
      · rw [zc_p2 n (by omega), w.2.2.1, ← y.2.2, ← rows 8 (by omega) (by omega)]
        exact congrFun (fr 5 (by omega) (by omega)) _
      · rw [zc_p3 n (by omega), w.2.2.2.1]
        exact (gp n (by omega)).2.1
      · rw [zc_p4 n (by omega), w.2.2.2.2]
        exact (gp n (by omega)).2.2.trans (by decide)
    · obtain ⟨n, k, hn, hk, rfl⟩ : ∃ n k, n < V ∧ k < 5 ∧ j = 172 + 5 * n + k := ⟨(j - 172) / 5, (j - 172) % 5, by omega, by omega, by omega⟩
      have y := k3 n hn
      have w := rv n hn
      rcases (by omega : k = 0 ∨ k = 1 ∨ k = 2 ∨ k = 3 ∨ k = 4) with rfl | rfl | rfl | rfl | rfl
      · rw [zc_v0 n (by omega), w.1, ← y.1, ← rows 9 (by omega) (by omega)]
        exact congrFun (fr 6 (by omega) (by omega)) _
      · rw [zc_v1 n (by omega), w.2.1, ← y.2.1, ← rows 10 (by omega) (by omega)]
        exact congrFun (fr 7 (by omega) (by omega)) _
      · rw [zc_v2 n (by omega), w.2.2.1, ← y.2.2.1, ← rows 11 (by omega) (by omega)]
        exact congrFun (fr 8 (by omega) (by omega)) _
      · rw [zc_v3 n (by omega), w.2.2.2.1, ← y.2.2.2, ← rows 12 (by omega) (by omega)]
        exact congrFun (fr 9 (by omega) (by omega)) _
      · rw [zc_v4 n (by omega), w.2.2.2.2]
        exact gv n (by omega)
  · rw [g0.1, if_neg (by rw [r0]; exact nI_ne0 (by omega) (by omega))]
    rfl
  · omega
  · intro s hs k hk
    rw [z1] at hs
    rw [z0] at hk
    rw [(rs s hs).1 k hk, ← k1 s k hs hk]
    exact l1 s k hs hk
  · intro p hp
    rw [z2] at hp
    rw [(rp p hp).1, ← (k2 p hp).1, t0]
    exact (l2 p hp).1
  · intro p hp
    rw [z2] at hp
    rw [(rp p hp).2.2.1, ← (k2 p hp).2.2, t1]
    exact (l2 p hp).2.2
  · intro v hv
    rw [z3] at hv
    have w := rv v hv
    have y := k3 v hv
    have l := l3 v hv
    rw [w.1, w.2.1, w.2.2.1, ← y.1, ← y.2.1, ← y.2.2.1, t1]
    omega
  · intro p hp
    rw [z2] at hp
    rw [(rp p hp).2.2.2.1, t1, m1]
    omega
  · intro p hp
    rw [z2] at hp
    rw [(rp p hp).2.2.2.2, (rp p hp).2.2.2.1, if_neg (by rw [m1]; omega)]
  · intro s hs
    rw [z1] at hs
    exact Or.inl (rs s hs).2.1
  · intro s hs c
    rw [z1] at hs
    rw [(rs s hs).2.1] at c
    exact absurd c (by decide)
  · intro s hs _
    rw [z1] at hs
    exact (rs s hs).2.2.1
  · intro v hv c
    rw [z3] at hv
    rw [(rv v hv).2.2.2.2] at c
    exact absurd c (by decide)
  · rw [r6, d5, i0]
    omega
  · rw [r4, i0]
    omega
  · intro p hp
    rw [z2] at hp
    have l := (l2 p hp).2.1
    rw [(rp p hp).2.1, ← (k2 p hp).2.1]
    omega
  · rw [r4, i0]
    omega
  · intro c
    rw [r0] at c
    exact absurd c (nI_ne0 (by omega) (by omega))
end
section
/-! the tapes, the counts of rules are the same -/
def lq_E (pl : Nat → Nat) (M : nt_M) : Prop := ∃ t n : Nat, t ≤ 400 ∧ n ≤ 6 ∧ nt_I M (pl 17) 1 = nI t ∧ nt_I M (pl 0) 1 = nI t ∧ (∀ j, nt_I M (pl 8) j = nt_I M (pl 18) j) ∧ (∀ j, -128 ≤ (nt_I M (pl 18) j).toInt ∧ (nt_I M (pl 18) j).toInt ≤ 127) ∧ nt_I M (pl 16) 4 = nI n ∧ nt_I M (pl 0) 2 = nI n
theorem lq_keep {pl : Nat → Nat} {M M' : nt_M} (h : lq_T pl M M') (hE : lq_E pl M) : lq_E pl M' := by
  obtain ⟨t, n, a, b, c, d, e, f, g, i⟩ := hE
  have c18 := fun j => h 18 j (Or.inr (Or.inl rfl))
  exact ⟨t, n, a, b, (h 17 1 (Or.inl rfl)).trans c, (h 0 1 (Or.inr (Or.inr (Or.inr (Or.inr ⟨rfl, Or.inl rfl⟩))))).trans d, fun j => (h 8 j (Or.inr (Or.inr (Or.inl rfl)))).trans ((e j).trans (c18 j).symm), fun j => by rw [c18 j]; exact f j, (h 16 4 (Or.inr (Or.inr (Or.inr (Or.inl ⟨rfl, rfl⟩))))).trans g, (h 0 2 (Or.inr (Or.inr (Or.inr (Or.inr ⟨rfl, Or.inr rfl⟩))))).trans i⟩
theorem lq_ne {pl : Nat → Nat} {v : Nat → Int} {M : nt_M} (hB : ly_B pl v M) (g h : Nat) (hg : g < 66) (hh : h < 66) (e : g ≠ h) : pl g ≠ pl h := fun c => e (hB.1 g h hg hh c)
theorem lq_feed2 {X : nt_X} {pl : Nat → Nat} {v : Nat → Int} {M M1 M2 : nt_M} {y1 y2 a0 a1 a2 a3 a4 : Int32} (hB : ly_B pl v M) (hB1 : ly_B pl v M1) (hE : lq_E pl M) (e1 : nt_ev X 99 102 [.ref (pl 16), .int a0, .int a1, .int a2, .int a3, .int a4] M (some (.int y1), M1)) (e2 : nt_ev X 99 130 [.ref (pl 0), .int a0, .int a1, .int a2, .int a3, .int a4] M1 (some (.int y2), M2)) : y1 = y2 ∧ lq_E pl M2 := by
  have hE0 := hE
  obtain ⟨t, n, ht, hn, h17, h01, h8, hb, h16, h02⟩ := hE
  have ne := lq_ne hB
  have g18 := hB.2.1.2 18 _ (show ly_E.2.1[18]? = some (12, 400, 400, 0) from rfl)
  have g8 := hB1.2.1.2 8 _ (show ly_E.2.1[8]? = some (12, 400, 400, 0) from rfl)
  have rT := ly_ref (g := 16) (j := 0) (k := 17) hB (List.mem_of_getElem? (i := 0) rfl)
  have rY := ly_ref (g := 17) (j := 0) (k := 18) hB (List.mem_of_getElem? (i := 28) rfl)
  have rB := ly_ref (g := 0) (j := 0) (k := 8) hB1 (List.mem_of_getElem? (i := 20) rfl)
  rcases lq_feedC (J := nt_I M) rT rY (ne 18 17 (by omega) (by omega) (by decide)) g18.2.1 h17 ht e1 with ⟨c, e⟩ | ⟨c, J1, e, l1, w1, f1, o1⟩
  · obtain ⟨ey, eM⟩ := lq_out e
    have eM : M1 = M := eM
    subst eM
    rcases lq_feedR (J := nt_I M1) rB (ne 8 0 (by omega) (by omega) (by decide)) g8.2.1 h01 ht e2 with ⟨c2, e⟩ | ⟨c2, _⟩
    · obtain ⟨ey2, eM2⟩ := lq_out e
      have eM2 : M2 = M1 := eM2
      subst eM2
      exact ⟨by rw [ey, ey2], hE0⟩
    · omega
  · obtain ⟨ey, eM⟩ := lq_out e
    have i1 : nt_I M1 = J1 := by rw [eM]; rfl
    have h01' : nt_I M1 (pl 0) 1 = nI t := by rw [i1, o1 _ (ne 0 17 (by omega) (by omega) (by decide)) (ne 0 18 (by omega) (by omega) (by decide))]; exact h01
    rcases lq_feedR (J := nt_I M1) rB (ne 8 0 (by omega) (by omega) (by decide)) g8.2.1 h01' ht e2 with ⟨c2, _⟩ | ⟨c2, J2, e, l2, w2, f2, o2⟩
    · omega
    · obtain ⟨ey2, eM2⟩ := lq_out e
      have i2 : nt_I M2 = J2 := by rw [eM2]; rfl
      refine ⟨by rw [ey, ey2], t + 20, n, by omega, hn, ?_, ?_, fun j => ?_, fun j => ?_, ?_, ?_⟩
      · rw [i2, o2 _ (ne 17 0 (by omega) (by omega) (by decide)) (ne 17 8 (by omega) (by omega) (by decide)), i1]
        exact l1
      · rw [i2]
        exact l2
      · rw [i2, w2, o2 _ (ne 18 0 (by omega) (by omega) (by decide)) (ne 18 8 (by omega) (by omega) (by decide)), i1, w1, o1 _ (ne 8 17 (by omega) (by omega) (by decide)) (ne 8 18 (by omega) (by omega) (by decide)), show nt_I M (pl 8) = nt_I M (pl 18) from funext h8]
      · rw [i2, o2 _ (ne 18 0 (by omega) (by omega) (by decide)) (ne 18 8 (by omega) (by omega) (by decide)), i1, w1]
        exact lq_wb (lq_wb (lq_wb (lq_wb (lq_wb hb)))) j
      · rw [i2, o2 _ (ne 16 0 (by omega) (by omega) (by decide)) (ne 16 8 (by omega) (by omega) (by decide)), i1, o1 _ (ne 16 17 (by omega) (by omega) (by decide)) (ne 16 18 (by omega) (by omega) (by decide))]
        exact h16
      · rw [i2, f2 2 (by decide), i1, o1 _ (ne 0 17 (by omega) (by omega) (by decide)) (ne 0 18 (by omega) (by omega) (by decide))]
        exact h02
theorem lq_end2 {X : nt_X} {pl : Nat → Nat} {v : Nat → Int} {M M1 M2 : nt_M} {y1 y2 a : Int32} (hB : ly_B pl v M) (hE : lq_E pl M) (e1 : nt_ev X 99 103 [.ref (pl 16), .int a] M (some (.int y1), M1)) (e2 : nt_ev X 99 132 [.ref (pl 0), .int a] M1 (some (.int y2), M2)) : y1 = y2 ∧ lq_E pl M2 := by
  have hE0 := hE
  obtain ⟨t, n, ht, hn, h17, h01, h8, hb, h16, h02⟩ := hE
  have ne := lq_ne hB
  have rT := ly_ref (g := 16) (j := 0) (k := 17) hB (List.mem_of_getElem? (i := 0) rfl)
  rcases lq_endC (J := nt_I M) rT h17 e1 with ⟨c, e⟩ | ⟨c, c', e⟩
  · obtain ⟨ey, eM⟩ := lq_out e
    have eM : M1 = M := eM
    subst eM
    rcases lq_endR (J := nt_I M1) h01 e2 with ⟨c2, e⟩ | ⟨c2, c3, _⟩
    · obtain ⟨ey2, eM2⟩ := lq_out e
      have eM2 : M2 = M1 := eM2
      subst eM2
      exact ⟨by rw [ey, ey2], hE0⟩
    · exact absurd c (fun c => c.elim c2 (fun c => c c3))
  · obtain ⟨ey, eM⟩ := lq_out e
    have i1 : nt_I M1 = nt_u (nt_I M) (pl 17) 1 a := by rw [eM]; rfl
    have h01' : nt_I M1 (pl 0) 1 = nI t := by rw [i1, me_uo (ne 0 17 (by omega) (by omega) (by decide))]; exact h01
    rcases lq_endR (J := nt_I M1) h01' e2 with ⟨c2, e⟩ | ⟨c2, c3, e⟩
    · exact absurd c2 (fun h => h.elim c (fun h => h c'))
    · obtain ⟨ey2, eM2⟩ := lq_out e
      have i2 : nt_I M2 = nt_u (nt_I M1) (pl 0) 1 a := by rw [eM2]; rfl
      have a0 : 0 ≤ a.toInt := by
        have : ¬ a.toInt < (0 : Int32).toInt := fun h => c (Int32.lt_iff_toInt_lt.mpr h)
        have z : (0 : Int32).toInt = 0 := by decide
        omega
      have a1 : a.toInt ≤ t := by
        have := Int32.le_iff_toInt_le.mp c'
        rw [nI_toInt (by omega)] at this
        exact this
      have ea : a = nI a.toInt.toNat := Int32.toInt_inj.mp (by rw [nI_toInt (by omega)]; omega)
      refine ⟨by rw [ey, ey2], a.toInt.toNat, n, by omega, hn, ?_, ?_, fun j => ?_, fun j => ?_, ?_, ?_⟩
      · rw [i2, me_uo (ne 17 0 (by omega) (by omega) (by decide)), i1, me_us]
        exact ea
      · rw [i2, me_us]
        exact ea
      · rw [i2, me_uo (ne 8 0 (by omega) (by omega) (by decide)), me_uo (ne 18 0 (by omega) (by omega) (by decide)), i1, me_uo (ne 8 17 (by omega) (by omega) (by decide)), me_uo (ne 18 17 (by omega) (by omega) (by decide))]
        exact h8 j
      · rw [i2, me_uo (ne 18 0 (by omega) (by omega) (by decide)), i1, me_uo (ne 18 17 (by omega) (by omega) (by decide))]
        exact hb j
      · rw [i2, me_uo (ne 16 0 (by omega) (by omega) (by decide)), i1, me_uo (ne 16 17 (by omega) (by omega) (by decide))]
        exact h16
      · rw [i2, me_uk (by decide), i1, me_uo (ne 0 17 (by omega) (by omega) (by decide))]
        exact h02
theorem lc_Qf {J0 J : Nat → Nat → Int32} {Rd RR Sp t : Nat} {r : lb_Y} (h : lc_Q J0 Rd RR Sp t r J) (a : Nat) (h1 : a ≠ Rd) (h2 : a ≠ RR) (h3 : a ≠ Sp) : J a = J0 a := by
  cases r with
  | inl c =>
    obtain ⟨_, m, s, hS⟩ := h
    exact hS.2.2.2.2.2.1 a h1 h2 h3
  | inr z => exact h.1.2.2.2.2.2.1 a h1 h2 h3
/-! rules -/
theorem mg_c2_lb {f : Nat → Int32} {t x : Nat} : ∀ (k i : Nat) (z : lb_Z) (r : lb_Y) (cl : Nat → Int32) (cc : Nat) (cl' : Nat → Int32) (cc' : Nat), mg_c2 f t x k i z r cl cc cl' cc' → lb_c2 f t k i z r := by
  intro k
  induction k with
  | zero => intro i z r cl cc cl' cc' h; exact h
  | succ k ih =>
    intro i z r cl cc cl' cc' h
    rcases h with ⟨g, r1, cl1, cc1, h1, h2⟩ | ⟨g, h, _⟩ | h
    · exact Or.inl ⟨g, r1, h1.1, lb_th_up (fun z1 q => ih _ _ _ _ _ _ _ q) h2⟩
    · exact Or.inr (Or.inl ⟨g, h⟩)
    · exact Or.inr (Or.inr h)
theorem zIv_ru2 {f : Nat → Int32} {t x k : Nat} {zf : lb_Z} {cl0 cl' g' h' : Nat → Int32} {cc' : Nat} (ht : t ≤ 400) (h : lb_cs f t k 0 (lb_s f t 0, 0, ((0, fun _ => 0), (0, fun _ => 0))) (.inr zf)) (h3 : mg_c3 f t x (lb_s f t 0, 0, ((0, fun _ => 0), (0, fun _ => 0))) (.inr zf) cl0 cl' cc') (hg : ∀ j, j < zf.2.2.1.1 → g' j = zf.2.2.1.2 j) (hh : ∀ j, j < zf.2.2.2.1 → h' j = zf.2.2.2.2 j) : zRu g' h' (fun j => cl' (48 * x + j)) cc' zf.2.2.1.1 := by
  obtain ⟨r1, cl1, cc1, h1, h2⟩ := h3
  have q := lb_s_le (f := f) (t := t) t 0 (by omega)
  have hI : zIv t x (lb_s f t 0, 0, ((0, fun _ => 0), (0, fun _ => 0))) cl0 0 := ⟨q.2, Nat.zero_le _, Nat.zero_le _, Nat.le_refl _, fun _ => 0, rfl, rfl, fun i hi => by omega⟩
  have z := zIv_k ht k 0 _ zf r1 cl0 cl1 cl' 0 cc1 cc' hI h h1 h2
  obtain ⟨pl, hm, hl, hd, pos, p0, pc, hp⟩ := z
  refine ⟨pos, p0, pc, fun i hi => ?_⟩
  have hb := (hp i hi).1
  have := (zCb_l (zCb_ag (hp i hi).2 (fun j hj => hg j (by omega)) hh (fun _ _ => rfl) (Nat.le_refl _)) (by omega)).1
  have e : (fun r => cl' (48 * x + 4 * i + r)) = (fun r => (fun j => cl' (48 * x + j)) (4 * i + r)) := by
    funext r
    show _ = cl' (48 * x + (4 * i + r))
    rw [Nat.add_assoc]
  rw [e] at this
  exact this
theorem zRQ_ag2 {p : Nat → Nat} {sp ln T : Nat} {Jc Jr Jc' Jr' : Nat → Nat → Int32} (h : zRQ p sp ln T Jc Jr) (hc : Jc' sp = Jc sp) (h1 : ∀ j, j < 400 → Jr' (p 1) (400 * T + j) = Jr (p 1) (400 * T + j)) (h2 : ∀ j, j < 48 → Jr' (p 2) (48 * T + j) = Jr (p 2) (48 * T + j)) (h3 : Jr' (p 3) T = Jr (p 3) T) : zRQ p sp ln T Jc' Jr' := by
  obtain ⟨a, b, c, g, h, cl, k, d1, d2, d3, d4, d5, d6⟩ := h
  exact ⟨a, b, c, g, h, cl, k, d1, fun j hj => by rw [hc]; exact d2 j hj, fun j hj => by rw [h1 j hj]; exact d3 j hj, fun j hj => by rw [h2 j hj]; exact d4 j hj, by rw [h3]; exact d5, d6⟩
theorem zz_rule2 {X : nt_X} {pl : Nat → Nat} {v v' mk xi : Nat → Int} {M M1 M2 : nt_M} {y1 y2 : Int32} (hB : ly_B pl v M) (hB1 : ly_B pl v' M1) (hS : ly_S pl mk xi (v 2) M) (hZ : zz_E pl M) (hE : lq_E pl M) (hn2 : nt_n M ≤ nt_n M1) (hS1 : ly_S pl mk xi (v' 2) M1) (hp : ∀ g, g < 66 → pl g < nt_n M) (hR : lq_R X pl v v' 98 y1 M M1) (e2 : nt_ev X 99 133 [.ref (pl 0)] M1 (some (.int y2), M2)) : y1 = y2 ∧ lq_E pl M2 ∧ zz_E pl M2 := by
  have hE0 := hE
  obtain ⟨t, n, ht, hn, h17, h01, h8, hb, h16, h02⟩ := hE
  have ne := lq_ne hB
  have vn : v 2 = (n : Int) := by
    have := ly_vI hB
    rw [h16, nI_toInt (by omega)] at this
    exact this.symm
  have hO : md_O M1 (pl 0) (pl 8) (pl 1) (pl 10) (pl 9) := ⟨ly_ref (g := 0) (j := 22) (k := 9) hB1 (List.mem_of_getElem? (i := 21) rfl), ⟨ne 9 0 (by omega) (by omega) (by decide), ne 9 8 (by omega) (by omega) (by decide), ne 9 1 (by omega) (by omega) (by decide), ne 9 10 (by omega) (by omega) (by decide)⟩, by have := (hB1.2.1.2 9 _ (show ly_E.2.1[9]? = some (13, 400, 400, 0) from rfl)).2.2.1; dsimp only at this; omega, lq_sp hB1 (show ly_E.2.1[9]? = some (13, 400, 400, 0) from rfl)⟩
  have hK2 : mg_K2 (pl 9) (pl 2) (pl 3) := ⟨ne 2 9 (by omega) (by omega) (by decide), ne 3 9 (by omega) (by omega) (by decide), ne 2 3 (by omega) (by omega) (by decide)⟩
  have hK : md_K M1 (pl 0) (pl 8) (pl 1) (pl 10) (pl 2) (pl 3) := ⟨ly_ref (g := 0) (j := 5) (k := 2) hB1 (List.mem_of_getElem? (i := 14) rfl), ly_ref (g := 0) (j := 6) (k := 3) hB1 (List.mem_of_getElem? (i := 15) rfl), ⟨ne 2 0 (by omega) (by omega) (by decide), ne 2 8 (by omega) (by omega) (by decide), ne 2 1 (by omega) (by omega) (by decide), ne 2 10 (by omega) (by omega) (by decide)⟩, ⟨ne 3 0 (by omega) (by omega) (by decide), ne 3 8 (by omega) (by omega) (by decide), ne 3 1 (by omega) (by omega) (by decide), ne 3 10 (by omega) (by omega) (by decide)⟩, lq_sp hB1 (show ly_E.2.1[2]? = some (13, 288, 288, 0) from rfl), lq_sp hB1 (show ly_E.2.1[3]? = some (13, 6, 6, 14) from rfl)⟩
  have hP0 : nt_I M1 (pl 0) 1 = nI t → (∀ j, nt_I M1 (pl 8) j = nt_I M (pl 18) j) → mg_P0 M1 (nt_I M1) (nt_I M (pl 18)) t (pl 0) (pl 8) (pl 1) (pl 10) := fun q1 q2 => ⟨⟨ly_ref (g := 0) (j := 0) (k := 8) hB1 (List.mem_of_getElem? (i := 20) rfl), ly_ref (g := 0) (j := 3) (k := 1) hB1 (List.mem_of_getElem? (i := 13) rfl), ly_ref (g := 0) (j := 4) (k := 10) hB1 (List.mem_of_getElem? (i := 22) rfl)⟩, ⟨ne 8 0 (by omega) (by omega) (by decide), ne 8 1 (by omega) (by omega) (by decide), ne 8 10 (by omega) (by omega) (by decide), ne 0 1 (by omega) (by omega) (by decide), ne 0 10 (by omega) (by omega) (by decide), ne 1 10 (by omega) (by omega) (by decide)⟩, q1, q2, ht, by have := (hB1.2.1.2 1 _ (show ly_E.2.1[1]? = some (13, 2400, 2400, 0) from rfl)).2.2.1; dsimp only at this; omega, lq_sp hB1 (show ly_E.2.1[1]? = some (13, 2400, 2400, 0) from rfl), lq_sp hB1 (show ly_E.2.1[10]? = some (13, 7, 7, 13) from rfl)⟩
  have hby : lb_by (nt_I M (pl 18)) t := fun j _ => hb j
  rcases hR with ⟨c6, ey, eM⟩ | ⟨c6, x, MR, kr, q17, qo, qr, hx⟩
  · subst eM
    rcases mg_rule (J := nt_I M1) (hP0 h01 h8) hO hK hK2 hby h02 hn e2 with ⟨n6, e⟩ | ⟨n6, _⟩
    · obtain ⟨ey2, eM2⟩ := lq_out e
      have eM2 : M2 = M1 := eM2
      subst eM2
      exact ⟨by rw [ey, ey2], hE0, hZ⟩
    · omega
  · have hP : lc_P M (nt_I M) (nt_I M (pl 18)) t (pl 19) (pl 17) (pl 18) (pl 21) (pl 22) := ⟨⟨ly_ref (g := 19) (j := 0) (k := 17) hB (List.mem_of_getElem? (i := 12) rfl), ly_ref (g := 17) (j := 0) (k := 18) hB (List.mem_of_getElem? (i := 28) rfl), ly_ref (g := 21) (j := 0) (k := 19) hB (List.mem_of_getElem? (i := 10) rfl), ly_ref (g := 21) (j := 1) (k := 22) hB (List.mem_of_getElem? (i := 11) rfl)⟩, ⟨ne 17 19 (by omega) (by omega) (by decide), ne 17 21 (by omega) (by omega) (by decide), ne 17 22 (by omega) (by omega) (by decide), ne 18 19 (by omega) (by omega) (by decide), ne 18 21 (by omega) (by omega) (by decide), ne 18 22 (by omega) (by omega) (by decide), ne 19 21 (by omega) (by omega) (by decide), ne 19 22 (by omega) (by omega) (by decide), ne 21 22 (by omega) (by omega) (by decide)⟩, h17, fun _ => rfl, ht, by have := (hB.2.1.2 22 _ (show ly_E.2.1[22]? = some (13, 400, 400, 0) from rfl)).2.2.1; dsimp only at this; omega, lq_sp hB (show ly_E.2.1[22]? = some (13, 400, 400, 0) from rfl)⟩
    obtain ⟨k0, r, J1, e, hcs, hQ⟩ := lc_read (J := nt_I M) (E2 := (0, fun _ => 0)) hP (fun _ _ _ _ => rfl) kr
    obtain ⟨ex, eMR⟩ := lq_out e
    have iR : nt_I MR = J1 := by rw [eMR]; rfl
    have old : ∀ g, g < 66 → g ≠ 19 → g ≠ 21 → g ≠ 22 → nt_I MR (pl g) = nt_I M (pl g) := fun g hg a1 a2 a3 => by
      rw [iR]
      exact lc_Qf hQ (pl g) (ne g 19 hg (by omega) a1) (ne g 21 hg (by omega) a2) (ne g 22 hg (by omega) a3)
    have o1 : ∀ g j, lq_c g j → g ≠ 17 → g ≠ 16 → nt_I M1 (pl g) j = nt_I M (pl g) j := fun g j hc a1 a2 => by
      rw [qo (pl g) j (hp g (lq_c66 hc)) (ne g 17 (lq_c66 hc) (by omega) a1) (ne g 16 (lq_c66 hc) (by omega) a2), old g (lq_c66 hc) (by rcases hc with h | h | h | h | h <;> omega) (by rcases hc with h | h | h | h | h <;> omega) (by rcases hc with h | h | h | h | h <;> omega)]
    have c01 : lq_c 0 1 := Or.inr (Or.inr (Or.inr (Or.inr ⟨rfl, Or.inl rfl⟩)))
    have c02 : lq_c 0 2 := Or.inr (Or.inr (Or.inr (Or.inr ⟨rfl, Or.inr rfl⟩)))
    have c8 : ∀ j, lq_c 8 j := fun j => Or.inr (Or.inr (Or.inl rfl))
    have c18 : ∀ j, lq_c 18 j := fun j => Or.inr (Or.inl rfl)
    have m01 : nt_I M1 (pl 0) 1 = nI t := (o1 0 1 c01 (by decide) (by decide)).trans h01
    have m02 : nt_I M1 (pl 0) 2 = nI n := (o1 0 2 c02 (by decide) (by decide)).trans h02
    have m8 : ∀ j, nt_I M1 (pl 8) j = nt_I M (pl 18) j := fun j => (o1 8 j (c8 j) (by decide) (by decide)).trans (h8 j)
    have m18 : ∀ j, nt_I M1 (pl 18) j = nt_I M (pl 18) j := fun j => o1 18 j (c18 j) (by decide) (by decide)
    have v16 := ly_vI hB1
    rcases mg_rule (J := nt_I M1) (hP0 m01 m8) hO hK hK2 hby m02 hn e2 with ⟨n6, _⟩ | ⟨n6, r', J2, cl', cc', h3, hw, w1, fr, hX⟩
    · omega
    · have h30 := h3
      obtain ⟨ra, cl1, cc1, ca, cb⟩ := h3
      have er := lb_cs_det k0 0 _ r r' ra hcs ca.1 (lb_th_up (fun z1 ⟨k, q⟩ => ⟨k, mg_c2_lb _ _ _ _ _ _ _ _ q⟩) cb)
      subst er
      have fo : ∀ g, g < 66 → g ≠ 0 → g ≠ 1 → g ≠ 10 → g ≠ 9 → g ≠ 2 → g ≠ 3 → J2 (pl g) = nt_I M1 (pl g) := fun g hg a1 a2 a3 a4 a5 a6 => fr (pl g) (ne g 0 hg (by omega) a1) (ne g 1 hg (by omega) a2) (ne g 10 hg (by omega) a3) (ne g 9 hg (by omega) a4) (ne g 2 hg (by omega) a5) (ne g 3 hg (by omega) a6)
      have fin : ∀ n', n' ≤ 6 → nt_I M1 (pl 16) 4 = nI n' → J2 (pl 0) 2 = nI n' → M2 = me_w M1 J2 → lq_E pl M2 := by
        intro n' hn' q16 q02 eM2
        have i2 : nt_I M2 = J2 := by rw [eM2]; rfl
        refine ⟨0, n', by omega, hn', ?_, ?_, fun j => ?_, fun j => ?_, ?_, ?_⟩
        · rw [i2, fo 17 (by omega) (by decide) (by decide) (by decide) (by decide) (by decide) (by decide)]
          exact q17
        · rw [i2]
          exact w1
        · rw [i2, fo 8 (by omega) (by decide) (by decide) (by decide) (by decide) (by decide) (by decide), fo 18 (by omega) (by decide) (by decide) (by decide) (by decide) (by decide) (by decide), m8 j, m18 j]
        · rw [i2, fo 18 (by omega) (by decide) (by decide) (by decide) (by decide) (by decide) (by decide), m18 j]
          exact hb j
        · rw [i2, fo 16 (by omega) (by decide) (by decide) (by decide) (by decide) (by decide) (by decide)]
          exact q16
        · rw [i2]
          exact q02
      have pn := hS.1.1
      have p66 := hS.1.2.2.2
      have reg1 : ∀ g, g < 66 → g ≠ 17 → g ≠ 16 → g ≠ 19 → g ≠ 21 → g ≠ 22 → nt_I M1 (pl g) = nt_I M (pl g) := fun g hg a1 a2 a3 a4 a5 => by
        funext j
        rw [qo (pl g) j (hp g hg) (ne g 17 hg (by omega) a1) (ne g 16 hg (by omega) a2), old g hg a3 a4 a5]
      have reg : ∀ g, g < 66 → g ≠ 17 → g ≠ 16 → g ≠ 19 → g ≠ 21 → g ≠ 22 → g ≠ 0 → g ≠ 1 → g ≠ 10 → g ≠ 9 → g ≠ 2 → g ≠ 3 → J2 (pl g) = nt_I M (pl g) := fun g hg a1 a2 a3 a4 a5 b1 b2 b3 b4 b5 b6 => (fo g hg b1 b2 b3 b4 b5 b6).trans (reg1 g hg a1 a2 a3 a4 a5)
      have o66 : ∀ a, 66 ≤ a → ∀ g, g < 66 → a ≠ pl g := fun a ha g hg e => by have := pn g hg; omega
      have out2 : ∀ a, 66 ≤ a → J2 a = nt_I M1 a := fun a ha => fr a (o66 a ha 0 (by omega)) (o66 a ha 1 (by omega)) (o66 a ha 10 (by omega)) (o66 a ha 9 (by omega)) (o66 a ha 2 (by omega)) (o66 a ha 3 (by omega))
      have out : ∀ a, 66 ≤ a → a < nt_n M → J2 a = nt_I M a := fun a ha hn => by
        rw [out2 a ha]
        funext j
        rw [qo a j hn (o66 a ha 17 (by omega)) (o66 a ha 16 (by omega)), iR, lc_Qf hQ a (o66 a ha 19 (by omega)) (o66 a ha 21 (by omega)) (o66 a ha 22 (by omega))]
      have now2 : zz_R (fun i => pl (31 + i)) J2 (J2 (pl 4)) := by
        rw [reg 4 (by omega) (by decide) (by decide) (by decide) (by decide) (by decide) (by decide) (by decide) (by decide) (by decide) (by decide) (by decide)]
        exact zz_Rag (fun i hi => reg (31 + i) (by omega) (by omega) (by omega) (by omega) (by omega) (by omega) (by omega) (by omega) (by omega) (by omega) (by omega) (by omega)) hZ.1
      have img2 : ∀ k, k < 4 → ∀ a, nt_R M1 (pl 65) k = some a → (66 ≤ a ∧ a + 17 ≤ nt_n M1) ∧ zz_R (fun i => a + i) J2 (zim J2 (pl 14) k) := fun k hk a ha => by
        rw [qr k] at ha
        obtain ⟨h1, h2⟩ := hZ.2.1 k hk a ha
        refine ⟨⟨h1.1, by omega⟩, zz_Rag (fun i hi => out _ (by omega) (by omega)) ?_⟩
        unfold zim
        rw [reg 14 (by omega) (by decide) (by decide) (by decide) (by decide) (by decide) (by decide) (by decide) (by decide) (by decide) (by decide) (by decide)]
        exact h2
      have eS := reg1 1 (by omega) (by decide) (by decide) (by decide) (by decide) (by decide)
      have eC := reg1 2 (by omega) (by decide) (by decide) (by decide) (by decide) (by decide)
      have eD := reg1 3 (by omega) (by decide) (by decide) (by decide) (by decide) (by decide)
      have oldr : ∀ u' b', u' < 6 → nt_R M (pl 23) u' = some b' → nt_l M1 (b' + 1) = nt_l M (b' + 1) → (66 ≤ b' ∧ b' + 2 ≤ nt_n M1 ∧ u' < n) ∧ zRQ pl (b' + 1) (nt_l M1 (b' + 1)) u' J2 J2 := fun u' b' hu hb hl => by
        obtain ⟨⟨h1, h2, h3⟩, h4⟩ := hZ.2.2 u' b' hu hb
        rw [h16, nI_toInt (by omega)] at h3
        refine ⟨⟨h1, by omega, by omega⟩, ?_⟩
        rw [hl]
        refine zRQ_ag2 h4 (out _ (by omega) (by omega)) (fun j hj => ?_) (fun j hj => ?_) ?_
        · rw [hX.1 _ (by omega), eS]
        · rw [hX.2.1 _ (by omega), eC]
        · rw [hX.2.2.1 _ (by omega), eD]
      have m16 : ∀ q, nt_I M1 (pl 16) 4 = nI q → q ≤ 6 → (J2 (pl 16) 4).toInt = q := fun q h hq => by
        rw [fo 16 (by omega) (by decide) (by decide) (by decide) (by decide) (by decide) (by decide), h, nI_toInt (by omega)]
      rcases hw with ⟨hrc, e, w2⟩ | ⟨hrc, e, w2⟩ <;> rcases hx with ⟨hx0, ey, ev, q23, ql⟩ | ⟨hx0, ev, u, eu, ey, sz, b, hsz, s21, b66, bn, q23, ql, qc, qld⟩
      · obtain ⟨ey2, eM2⟩ := lq_out e
        have h164 : nt_I M1 (pl 16) 4 = nI n := Int32.toInt_inj.mp (by rw [v16, ev, vn, nI_toInt (by omega)])
        refine ⟨by rw [ey, ey2, ex], fin n hn h164 w2 eM2, ?_⟩
        subst eM2
        refine ⟨now2, img2, fun u' b' hu' hb' => ?_⟩
        have hb' : nt_R M1 (pl 23) u' = some b' := hb'
        rw [q23] at hb'
        obtain ⟨⟨x1, x2, x3⟩, x4⟩ := oldr u' b' hu' hb' (ql _)
        refine ⟨⟨x1, x2, ?_⟩, x4⟩
        show (u' : Int) < (J2 (pl 16) 4).toInt
        rw [m16 n h164 hn]
        omega
      · rw [ex] at hx0
        exact absurd hx0 hrc
      · rw [ex] at hx0
        exact absurd hrc hx0
      · obtain ⟨ey2, eM2⟩ := lq_out e
        have eun : u = n := by omega
        subst eun
        have h164 : nt_I M1 (pl 16) 4 = nI (u + 1) := Int32.toInt_inj.mp (by rw [v16, ev, vn, nI_toInt (by omega)]; omega)
        refine ⟨by rw [ey, ey2], fin (u + 1) (by omega) h164 w2 eM2, ?_⟩
        subst eM2
        obtain ⟨zf, erz⟩ : ∃ zf, r = .inr zf := by
          cases r with
          | inl c => exact absurd hrc hQ.1
          | inr z => exact ⟨z, rfl⟩
        subst erz
        obtain ⟨x1, x2, x3, x4⟩ := hX.2.2.2 zf rfl
        obtain ⟨_, _, y3, _, y5, _, y7, _⟩ := hQ.1
        have esz : zf.2.2.1.1 = sz := by
          have : nI sz = nI zf.2.2.1.1 := by rw [← s21, iR]; exact y3
          have := congrArg Int32.toInt this
          rw [nI_toInt (by omega), nI_toInt (by omega)] at this
          omega
        refine ⟨now2, img2, fun u' b' hu' hb' => ?_⟩
        have hb' : nt_R M1 (pl 23) u' = some b' := hb'
        rw [q23] at hb'
        by_cases eu' : u' = u
        · rw [if_pos eu'] at hb'
          have eb := Option.some.inj hb'
          subst eb
          subst eu'
          refine ⟨⟨b66, ?_, ?_⟩, ?_, ?_, hu', fun j => J2 (b + 1) j, fun j => J2 (pl 1) (400 * u' + j), fun j => cl' (48 * u' + j), cc', x4, fun _ _ => rfl, fun _ _ => rfl, fun j _ => x2 _, ?_, ?_⟩
          · obtain ⟨_, _, T, _, hT⟩ := hS1
            obtain ⟨b2, c1, _, c2, _⟩ := hT u' (by omega)
            rw [q23, if_pos rfl] at c1
            have c1 := Option.some.inj c1
            show b + 2 ≤ nt_n M1
            omega
          · show (u' : Int) < (J2 (pl 16) 4).toInt
            rw [m16 _ h164 (by omega)]
            omega
          · exact o66 _ (by omega) 25 (by omega)
          · show nt_l M1 (b + 1) ≤ 400
            omega
          · show (J2 (pl 3) u').toInt = _
            rw [x3, nI_toInt (by omega)]
          · show zRu _ _ _ _ (nt_l M1 (b + 1))
            rw [ql, ← esz]
            refine zIv_ru2 ht hcs h30 (fun j hj => ?_) (fun j hj => x1 j hj)
            rw [out2 _ (by omega), qc j (by omega), iR]
            exact y5 j hj
        · rw [if_neg eu'] at hb'
          have hb2 := (hZ.2.2 u' b' hu' hb').1
          obtain ⟨⟨x1, x2, x3⟩, x4⟩ := oldr u' b' hu' hb' (qld _ (by omega))
          refine ⟨⟨x1, x2, ?_⟩, x4⟩
          show (u' : Int) < (J2 (pl 16) 4).toInt
          rw [m16 _ h164 (by omega)]
          omega
end
section
/-! a yard read by both, everything kept -/
def zz_oy (g : Nat) : Bool := !(Nat.beq g 17 || (Nat.beq g 19 || (Nat.ble 48 g && Nat.blt g 65)))
def zz_ov (g : Nat) : Bool := !(Nat.beq g 0 || (Nat.beq g 4 || (Nat.beq g 10 || (Nat.beq g 11 || (Nat.beq g 12 || Nat.beq g 13)))))
theorem zz_yardT {X : nt_X} {pl : Nat → Nat} {v : Nat → Int} {M : nt_M} {o : Option Value × nt_M} (hB : ly_B pl v M) (k : nt_ev X 99 104 [.ref (pl 16)] M o) : zz_T zz_oy pl M o.2 := zz_gen (vs := [.ref (pl 16)]) (ec := []) (r := v) (ko_w_n_yard X) rfl (by decide +kernel) (by decide) hB (fun _ _ => rfl) ⟨rfl, trivial⟩ (fun q hq => by cases hq) (ly_ob hB) ly_oc0 k
theorem zz_yardV {X : nt_X} {pl : Nat → Nat} {v : Nat → Int} {M : nt_M} {o : Option Value × nt_M} (hB : ly_B pl v M) (k : nt_ev X 99 166 [.ref (pl 0)] M o) : zz_T zz_ov pl M o.2 := zz_gen (vs := [.ref (pl 0)]) (ec := []) (r := v) (ko_w_yard X) rfl (by decide +kernel) (by decide) hB (fun _ _ => rfl) ⟨rfl, trivial⟩ (fun q hq => by cases hq) (ly_ob hB) ly_oc0 k
theorem zz_sgI {pl : Nat → Nat} {M : nt_M} (h : zz_I pl M) : zz_I (fun g => pl (ly_sg g)) M := by
  refine ⟨fun k hk a ha => ?_, fun u b hu hb => ?_⟩
  · exact h.1 k hk a ha
  · obtain ⟨h1, h2⟩ := h.2 u b hu hb
    refine ⟨h1, ?_⟩
    obtain ⟨a, b, c, d⟩ := h2
    exact ⟨a, b, c, d⟩
theorem zz_yard2 {X : nt_X} {pl pl' : Nat → Nat} {v mk xi : Nat → Int} {rc : Int} {M M1 M2 : nt_M} {y1 y2 : Int32} {t : Nat} (hB : ly_B pl v M) (hS : ly_S pl mk xi rc M) (ht : t ≤ 400) (h17 : nt_I M (pl 17) 1 = nI t) (h01 : nt_I M (pl 0) 1 = nI t) (h8 : ∀ j, nt_I M (pl 8) j = nt_I M (pl 18) j) (hB1 : ly_B pl' v M1) (f1 : ly_fr 66 pl M M1) (hB2 : ly_B pl' v M2) (f2 : ly_fr 66 pl' M1 M2) (hp : pl' = pl ∨ pl' = fun g => pl (ly_sg g)) (e1 : nt_ev X 99 104 [.ref (pl 16)] M (some (.int y1), M1)) (e2 : nt_ev X 99 166 [.ref (pl' 0)] M1 (some (.int y2), M2)) (hZ : zz_E pl M) : y1 = y2 ∧ zz_E pl' M2 := by
  have ne := zz_ne hB
  have T1 := zz_yardT hB e1
  have T2 := zz_yardV hB1 e2
  dsimp only at T1 T2
  have s0 : pl' 0 = pl 0 := by rcases hp with rfl | rfl <;> rfl
  have s8 : pl' 8 = pl 8 := by rcases hp with rfl | rfl <;> rfl
  have s4 : pl' 4 = pl 4 := by rcases hp with rfl | rfl <;> rfl
  have s16 : pl' 16 = pl 16 := by rcases hp with rfl | rfl <;> rfl
  have lo : ∀ g, g < 31 → pl' g = pl g := by
    intro g hg
    rcases hp with rfl | rfl
    · rfl
    · show pl (ly_sg g) = pl g
      unfold ly_sg
      rw [if_neg (by omega), if_neg (by omega)]
  have s65 : pl' 65 = pl 65 := by rcases hp with rfl | rfl <;> rfl
  obtain ⟨n1, r1, q1, w1⟩ := lq_yardA hB ht h17 e1
  obtain ⟨r2, ⟨n2, q2⟩, w2⟩ := lq_yardB (f := nt_I M (pl 18)) hB1 ht (by rw [s0, T1 0 (by omega) rfl]; exact h01) (fun j => by rw [s8, T1 8 (by omega) rfl]; exact h8 j) e2
  have er := lb_ya_det _ _ _ _ _ _ q1 q2
  subst er
  have r7 : nt_R M1 (pl 16) 7 = some (pl' 31) := by
    have := ly_ref (g := 16) (j := 7) (k := 31) hB1 (List.mem_of_getElem? (i := 6) rfl)
    rw [s16] at this
    exact this
  have I2 : zz_I pl' M2 := by
    have i1 : zz_I pl M1 := zz_Ifr hS f1 (fun g hg => T1 g (by omega) (by rcases hg with rfl | rfl | rfl | rfl | rfl <;> rfl)) hZ.2
    have i1' : zz_I pl' M1 := by
      rcases hp with rfl | rfl
      · exact i1
      · exact zz_sgI i1
    have hS1 : ∀ g, g < 66 → pl' g < 66 := fun g hg => by
      rcases hp with rfl | rfl
      · exact hS.1.1 g hg
      · exact hS.1.1 _ (ly_sg_lt hg)
    exact zz_Ik f2.1.1 f2.1.2.2.2 (fun k => f2.2.2 65 k (Or.inr rfl)) (fun k => f2.2.2 23 k (Or.inl rfl)) (fun g hg => T2 g (by omega) (by rcases hg with rfl | rfl | rfl | rfl | rfl <;> rfl)) (fun a ha => funext (f2.2.1 a (fun g hg e => by have := hS1 g hg; omega)).1) i1'
  have v31 : ∀ i, i < 17 → nt_I M2 (pl' (31 + i)) = nt_I M1 (pl' (31 + i)) := fun i hi => T2 _ (by omega) (by
    rcases (by omega : i = 0 ∨ i = 1 ∨ i = 2 ∨ i = 3 ∨ i = 4 ∨ i = 5 ∨ i = 6 ∨ i = 7 ∨ i = 8 ∨ i = 9 ∨ i = 10 ∨ i = 11 ∨ i = 12 ∨ i = 13 ∨ i = 14 ∨ i = 15 ∨ i = 16) with rfl | rfl | rfl | rfl | rfl | rfl | rfl | rfl | rfl | rfl | rfl | rfl | rfl | rfl | rfl | rfl | rfl <;> rfl)
  rcases w1 with ⟨c, ec, _, ey, e7⟩ | ⟨u, eu, ey, e7, hub, k0, D, hyC, JY, hyR, eI⟩ <;> rcases w2 with ⟨c', ec', ey', e4⟩ | ⟨u', eu', ey', hub', k0', D', hyC', hR⟩
  · rw [ec] at ec'
    cases ec'
    rw [e7] at r7
    have e31 : pl' 31 = pl 31 := (Option.some.inj r7).symm
    have ep : pl' = pl := by
      rcases hp with rfl | rfl
      · rfl
      · exact absurd e31 (ne 48 31 (by omega) (by omega) (by decide))
    refine ⟨by rw [ey, ey'], ?_, I2⟩
    rw [show nt_I M2 (pl' 4) = nt_I M1 (pl' 4) from funext e4, s4, T1 4 (by omega) rfl]
    refine zz_Rag (fun i hi => ?_) (q := fun i => pl' (31 + i)) (J := nt_I M) ?_
    · rw [v31 i hi, ep]
      exact T1 _ (by omega) (by
        rcases (by omega : i = 0 ∨ i = 1 ∨ i = 2 ∨ i = 3 ∨ i = 4 ∨ i = 5 ∨ i = 6 ∨ i = 7 ∨ i = 8 ∨ i = 9 ∨ i = 10 ∨ i = 11 ∨ i = 12 ∨ i = 13 ∨ i = 14 ∨ i = 15 ∨ i = 16) with rfl | rfl | rfl | rfl | rfl | rfl | rfl | rfl | rfl | rfl | rfl | rfl | rfl | rfl | rfl | rfl | rfl <;> rfl)
    · rw [ep]
      exact hZ.1
  · rw [ec] at eu'
    cases eu'
  · rw [eu] at ec'
    cases ec'
  · rw [eu] at eu'
    cases eu'
    rw [e7] at r7
    have e31 : pl' 31 = pl 48 := (Option.some.inj r7).symm
    have ep : pl' = fun g => pl (ly_sg g) := by
      rcases hp with rfl | rfl
      · exact absurd e31 (ne 31 48 (by omega) (by omega) (by decide))
      · rfl
    have eq : ∀ i, i < 17 → pl' (31 + i) = pl (48 + i) := fun i hi => by
      rw [ep]
      show pl (ly_sg (31 + i)) = _
      unfold ly_sg
      rw [if_pos (by omega), show 31 + i + 17 = 48 + i from by omega]
    obtain ⟨_, hk, hk1⟩ := lb_yaC2 k0 k0' 0 _ u u _ _ D D' (fun _ => ⟨rfl, rfl, rfl⟩) (fun c => absurd rfl c) (Nat.zero_le _) (Nat.zero_le _) yk_0 hyC hyC'
    refine ⟨by rw [ey, ey'], ?_, I2⟩
    have hq : zq (fun i => pl (48 + i)) := fun i j hi hj e => ne _ _ (by omega) (by omega) (by omega)
    have key := yy_R (q := fun i => pl (48 + i)) (x' := JY (pl 31) 6) hq hub hk1 ⟨hyR.1, fun i h5 h12 j => by
      show JY (pl (48 + (i - 3))) j = _
      rw [show 48 + (i - 3) = 45 + i from by omega]
      exact hyR.2 i h5 h12 j⟩ hk hR (zz_W hB2)
    rw [← eI] at key
    have key2 : zz_R (fun i => pl (48 + i)) (nt_I M2) (nt_I M2 (pl' 4)) := zz_Rag (fun i hi => by
      have := v31 i hi
      rw [eq i hi] at this
      exact this) key
    obtain ⟨⟨a1, a2⟩, a3⟩ := key2
    refine ⟨⟨fun j hj => ?_, ?_⟩, a3⟩
    · show nt_I M2 (pl' (31 + (zc j).1)) (zc j).2 = _
      rw [eq _ (zc_17 j (zv_lt hj))]
      exact a1 j hj
    · show nt_I M2 (pl' (31 + 0)) 1 = _
      rw [eq 0 (by omega)]
      exact a2
end
section
/-! a rule that is not there; images, the other side -/
/-! .days -/
def x110H (p : Nat → Nat) (v1 : Int32) (v2 : Int32) (J : Nat → Nat → Int32) : Int32 := if (J (p 31) 1) = 0 then (Int32.ofInt (-1))
  else (Int32.ofInt (-1))
theorem xt110H {X : nt_X} {d : Nat} {M : nt_M} {o : Option Value × nt_M} {p : Nat → Nat} {v1 : Int32} {v2 : Int32} {J : Nat → Nat → Int32} (hp : xs_P M p) (hn : xs_Q M (fun i => p (31 + i))) (hx : x111 p v1 J = Int32.ofInt 0) (k : nt_ev X d 110 [.ref (p 16), .int v1, .int v2] (me_w M J) o) : o = (some (.int (x110H p v1 v2 J)), me_w M J) := by
  have k : nt_rn X d 110 (0, [(0, .ref (p 16)), (1, .int v1), (2, .int v2)], [], me_w M J) o := k
  have k := ly_revb 1 (c' := (1, [(0, .ref (p 16)), (1, .int v1), (2, .int v2)], [.ref (p 16)], me_w M J)) rfl k
  have k := lz_get (a := (p 16)) (g := 1007) (M := me_w M J) (v := .ref (p 31)) rfl (nt_gfR rfl (hp.1 (16, 7, 31) (by decide))) k
  have k := lz_get (a := (p 31)) (g := 601) (M := me_w M J) (v := .int (J (p 31) 1)) rfl (congrArg Value.int (rfl)) k
  have k := ly_revb 1 (c' := (if (J (p 31) 1) = 0 then 44 else 10, [(0, .ref (p 16)), (1, .int v1), (2, .int v2)], [], me_w M J)) rfl k
  by_cases h7 : (J (p 31) 1) = 0
  · rw [if_pos h7] at k
    have k := ly_revb 1 (c' := (45, [(0, .ref (p 16)), (1, .int v1), (2, .int v2)], [.int (Int32.ofInt (-1))], me_w M J)) rfl k
    have k := lz_ri rfl (by decide) k
    rw [k, x110H, if_pos h7]
  · rw [if_neg h7] at k
    have k := ly_revb 2 (c' := (12, [(0, .ref (p 16)), (1, .int v1), (2, .int v2)], [.int v1, .ref (p 16)], me_w M J)) rfl k
    obtain ⟨d1, o1, ed, kc, k⟩ := lz_c (g := 111) (q := 1) (vs := [.ref (p 16), .int v1]) (rest := []) rfl rfl (by decide) (Or.inr (Or.inl ⟨_, rfl, rfl⟩)) rfl k
    have e1 := xt111 hp kc
    rw [hx] at e1
    subst e1
    have k : nt_rn X _ 110 (15, [(0, .ref (p 16)), (1, .int v1), (2, .int v2)], [.int (Int32.ofInt 0)], me_w M J) _ := k
    have k := ly_revb 1 (c' := (if (Int32.ofInt 0) = 0 then 44 else 18, [(0, .ref (p 16)), (1, .int v1), (2, .int v2)], [], me_w M J)) rfl k
    rw [if_pos (show (Int32.ofInt 0) = 0 from by decide)] at k
    have k := ly_revb 1 (c' := (45, [(0, .ref (p 16)), (1, .int v1), (2, .int v2)], [.int (Int32.ofInt (-1))], me_w M J)) rfl k
    have k := lz_ri rfl (by decide) k
    rw [k, x110H, if_neg h7]
/-! .ahead -/
def x123H (p : Nat → Nat) (v1 : Int32) (v2 : Int32) (v3 : Int32) (J : Nat → Nat → Int32) : Int32 := if (J (p 31) 1) = 0 then (Int32.ofInt (-1))
  else (Int32.ofInt (-1))
theorem xt123H {X : nt_X} {d : Nat} {M : nt_M} {o : Option Value × nt_M} {p : Nat → Nat} {v1 : Int32} {v2 : Int32} {v3 : Int32} {J : Nat → Nat → Int32} (hp : xs_P M p) (hn : xs_Q M (fun i => p (31 + i))) (hx : x111 p v1 J = Int32.ofInt 0) (k : nt_ev X d 123 [.ref (p 16), .int v1, .int v2, .int v3] (me_w M J) o) : o = (some (.int (x123H p v1 v2 v3 J)), me_w M J) := by
  have k : nt_rn X d 123 (0, [(0, .ref (p 16)), (1, .int v1), (2, .int v2), (3, .int v3)], [], me_w M J) o := k
  have k := ly_revb 1 (c' := (1, [(0, .ref (p 16)), (1, .int v1), (2, .int v2), (3, .int v3)], [.ref (p 16)], me_w M J)) rfl k
  have k := lz_get (a := (p 16)) (g := 1007) (M := me_w M J) (v := .ref (p 31)) rfl (nt_gfR rfl (hp.1 (16, 7, 31) (by decide))) k
  have k := lz_get (a := (p 31)) (g := 601) (M := me_w M J) (v := .int (J (p 31) 1)) rfl (congrArg Value.int (rfl)) k
  have k := ly_revb 1 (c' := (if (J (p 31) 1) = 0 then 37 else 10, [(0, .ref (p 16)), (1, .int v1), (2, .int v2), (3, .int v3)], [], me_w M J)) rfl k
  by_cases h7 : (J (p 31) 1) = 0
  · rw [if_pos h7] at k
    have k := ly_revb 1 (c' := (38, [(0, .ref (p 16)), (1, .int v1), (2, .int v2), (3, .int v3)], [.int (Int32.ofInt (-1))], me_w M J)) rfl k
    have k := lz_ri rfl (by decide) k
    rw [k, x123H, if_pos h7]
  · rw [if_neg h7] at k
    have k := ly_revb 2 (c' := (12, [(0, .ref (p 16)), (1, .int v1), (2, .int v2), (3, .int v3)], [.int v1, .ref (p 16)], me_w M J)) rfl k
    obtain ⟨d1, o1, ed, kc, k⟩ := lz_c (g := 111) (q := 1) (vs := [.ref (p 16), .int v1]) (rest := []) rfl rfl (by decide) (Or.inr (Or.inl ⟨_, rfl, rfl⟩)) rfl k
    have e1 := xt111 hp kc
    rw [hx] at e1
    subst e1
    have k : nt_rn X _ 123 (15, [(0, .ref (p 16)), (1, .int v1), (2, .int v2), (3, .int v3)], [.int (Int32.ofInt 0)], me_w M J) _ := k
    have k := ly_revb 1 (c' := (if (Int32.ofInt 0) = 0 then 37 else 18, [(0, .ref (p 16)), (1, .int v1), (2, .int v2), (3, .int v3)], [], me_w M J)) rfl k
    rw [if_pos (show (Int32.ofInt 0) = 0 from by decide)] at k
    have k := ly_revb 1 (c' := (38, [(0, .ref (p 16)), (1, .int v1), (2, .int v2), (3, .int v3)], [.int (Int32.ofInt (-1))], me_w M J)) rfl k
    have k := lz_ri rfl (by decide) k
    rw [k, x123H, if_neg h7]
/-! .years -/
def x125H (p : Nat → Nat) (v1 : Int32) (v2 : Int32) (v3 : Int32) (v4 : Int32) (v5 : Int32) (J : Nat → Nat → Int32) : Int32 := if (J (p 31) 1) = 0 then (Int32.ofInt (-1))
  else (Int32.ofInt (-1))
theorem xt125H {X : nt_X} {d : Nat} {M : nt_M} {o : Option Value × nt_M} {p : Nat → Nat} {v1 : Int32} {v2 : Int32} {v3 : Int32} {v4 : Int32} {v5 : Int32} {J : Nat → Nat → Int32} (hp : xs_P M p) (hn : xs_Q M (fun i => p (31 + i))) (hx : x111 p v1 J = Int32.ofInt 0) (k : nt_ev X d 125 [.ref (p 16), .int v1, .int v2, .int v3, .int v4, .int v5] (me_w M J) o) : o = (some (.int (x125H p v1 v2 v3 v4 v5 J)), me_w M J) := by
  have k : nt_rn X d 125 (0, [(0, .ref (p 16)), (1, .int v1), (2, .int v2), (3, .int v3), (4, .int v4), (5, .int v5)], [], me_w M J) o := k
  have k := ly_revb 1 (c' := (1, [(0, .ref (p 16)), (1, .int v1), (2, .int v2), (3, .int v3), (4, .int v4), (5, .int v5)], [.ref (p 16)], me_w M J)) rfl k
  have k := lz_get (a := (p 16)) (g := 1007) (M := me_w M J) (v := .ref (p 31)) rfl (nt_gfR rfl (hp.1 (16, 7, 31) (by decide))) k
  have k := lz_get (a := (p 31)) (g := 601) (M := me_w M J) (v := .int (J (p 31) 1)) rfl (congrArg Value.int (rfl)) k
  have k := ly_revb 1 (c' := (if (J (p 31) 1) = 0 then 40 else 10, [(0, .ref (p 16)), (1, .int v1), (2, .int v2), (3, .int v3), (4, .int v4), (5, .int v5)], [], me_w M J)) rfl k
  by_cases h7 : (J (p 31) 1) = 0
  · rw [if_pos h7] at k
    have k := ly_revb 1 (c' := (41, [(0, .ref (p 16)), (1, .int v1), (2, .int v2), (3, .int v3), (4, .int v4), (5, .int v5)], [.int (Int32.ofInt (-1))], me_w M J)) rfl k
    have k := lz_ri rfl (by decide) k
    rw [k, x125H, if_pos h7]
  · rw [if_neg h7] at k
    have k := ly_revb 2 (c' := (12, [(0, .ref (p 16)), (1, .int v1), (2, .int v2), (3, .int v3), (4, .int v4), (5, .int v5)], [.int v1, .ref (p 16)], me_w M J)) rfl k
    obtain ⟨d1, o1, ed, kc, k⟩ := lz_c (g := 111) (q := 1) (vs := [.ref (p 16), .int v1]) (rest := []) rfl rfl (by decide) (Or.inr (Or.inl ⟨_, rfl, rfl⟩)) rfl k
    have e1 := xt111 hp kc
    rw [hx] at e1
    subst e1
    have k : nt_rn X _ 125 (15, [(0, .ref (p 16)), (1, .int v1), (2, .int v2), (3, .int v3), (4, .int v4), (5, .int v5)], [.int (Int32.ofInt 0)], me_w M J) _ := k
    have k := ly_revb 1 (c' := (if (Int32.ofInt 0) = 0 then 40 else 18, [(0, .ref (p 16)), (1, .int v1), (2, .int v2), (3, .int v3), (4, .int v4), (5, .int v5)], [], me_w M J)) rfl k
    rw [if_pos (show (Int32.ofInt 0) = 0 from by decide)] at k
    have k := ly_revb 1 (c' := (41, [(0, .ref (p 16)), (1, .int v1), (2, .int v2), (3, .int v3), (4, .int v4), (5, .int v5)], [.int (Int32.ofInt (-1))], me_w M J)) rfl k
    have k := lz_ri rfl (by decide) k
    rw [k, x125H, if_neg h7]
/-! Model.image -/
def x234_23 (p : Nat → Nat) (v1 : Int32) : Nat → Int32 → (Nat → Nat → Int32) → Int32 × (Nat → Nat → Int32)
  | 0, v2, J => (J (p 4) 4, J)
  | c + 1, v2, J => if (Int32.ofInt 212) ≤ v2 then (J (p 4) 4, J)
    else (x234_23 p v1 c (v2 + (Int32.ofInt 1)) (nt_u J (p 14) ((((Int32.ofInt 212) * v1) + v2).toNatClampNeg) (J (p 4) v2.toNatClampNeg)))
theorem xt234_23 {X : nt_X} {d : Nat} {M : nt_M} {o : Option Value × nt_M} {p : Nat → Nat} {v1 : Int32} (hp : xs_P M p) : ∀ (c : Nat) (v2 : Int32) (J : Nat → Nat → Int32), (Int32.ofInt 212).toInt - v2.toInt ≤ c → nt_rn X d 234 (23, [(0, .ref (p 0)), (1, .int v1), (2, .int v2)], [], me_w M J) o → o = (some (.int ((x234_23 p v1 c v2 J).1)), me_w M ((x234_23 p v1 c v2 J).2)) := by
  intro c
  induction c with
  | zero =>
    intro v2 J hc k
    have k := ly_revb 3 (c' := (if (Int32.ofInt 212) ≤ v2 then 54 else 30, [(0, .ref (p 0)), (1, .int v1), (2, .int v2)], [], me_w M J)) rfl k
    have h27 : (Int32.ofInt 212) ≤ v2 := lx_end hc
    rw [if_pos h27] at k
    have k := ly_revb 1 (c' := (55, [(0, .ref (p 0)), (1, .int v1), (2, .int v2)], [.ref (p 0)], me_w M J)) rfl k
    have k := lz_get (a := (p 0)) (g := 1127) (M := me_w M J) (v := .ref (p 4)) rfl (nt_gfR rfl (hp.1 (0, 27, 4) (by decide))) k
    have k := ly_revb 1 (c' := (59, [(0, .ref (p 0)), (1, .int v1), (2, .int v2)], [.int (Int32.ofInt 4), .ref (p 4)], me_w M J)) rfl k
    have k := mx_iald (v := J (p 4) 4) rfl (hp.2.2.1 4 (by omega)) ((congrArg (J (p 4)) (show (Int32.ofInt 4).toNatClampNeg = 4 from rfl)).trans (rfl)) k
    have k := lz_ri rfl (by decide) k
    rw [k, x234_23]
  | succ c ih =>
    intro v2 J hc k
    have k := ly_revb 3 (c' := (if (Int32.ofInt 212) ≤ v2 then 54 else 30, [(0, .ref (p 0)), (1, .int v1), (2, .int v2)], [], me_w M J)) rfl k
    by_cases h27 : (Int32.ofInt 212) ≤ v2
    · rw [if_pos h27] at k
      have k := ly_revb 1 (c' := (55, [(0, .ref (p 0)), (1, .int v1), (2, .int v2)], [.ref (p 0)], me_w M J)) rfl k
      have k := lz_get (a := (p 0)) (g := 1127) (M := me_w M J) (v := .ref (p 4)) rfl (nt_gfR rfl (hp.1 (0, 27, 4) (by decide))) k
      have k := ly_revb 1 (c' := (59, [(0, .ref (p 0)), (1, .int v1), (2, .int v2)], [.int (Int32.ofInt 4), .ref (p 4)], me_w M J)) rfl k
      have k := mx_iald (v := J (p 4) 4) rfl (hp.2.2.1 4 (by omega)) ((congrArg (J (p 4)) (show (Int32.ofInt 4).toNatClampNeg = 4 from rfl)).trans (rfl)) k
      have k := lz_ri rfl (by decide) k
      rw [k, x234_23, if_pos h27]
    · rw [if_neg h27] at k
      have k := ly_revb 1 (c' := (31, [(0, .ref (p 0)), (1, .int v1), (2, .int v2)], [.ref (p 0)], me_w M J)) rfl k
      have k := lz_get (a := (p 0)) (g := 1129) (M := me_w M J) (v := .ref (p 14)) rfl (nt_gfR rfl (hp.1 (0, 29, 14) (by decide))) k
      have k := ly_revb 6 (c' := (42, [(0, .ref (p 0)), (1, .int v1), (2, .int v2)], [.ref (p 0), .int (((Int32.ofInt 212) * v1) + v2), .ref (p 14)], me_w M J)) rfl k
      have k := lz_get (a := (p 0)) (g := 1127) (M := me_w M J) (v := .ref (p 4)) rfl (nt_gfR rfl (hp.1 (0, 27, 4) (by decide))) k
      have k := ly_revb 1 (c' := (46, [(0, .ref (p 0)), (1, .int v1), (2, .int v2)], [.int v2, .ref (p 4), .int (((Int32.ofInt 212) * v1) + v2), .ref (p 14)], me_w M J)) rfl k
      have k := mx_iald (v := J (p 4) v2.toNatClampNeg) rfl (hp.2.2.1 4 (by omega)) (rfl) k
      have k := mx_iast (q := (((Int32.ofInt 212) * v1) + v2).toNatClampNeg) rfl rfl k
      have k : nt_rn X _ 234 (48, [(0, .ref (p 0)), (1, .int v1), (2, .int v2)], [], me_w M (nt_u J (p 14) ((((Int32.ofInt 212) * v1) + v2).toNatClampNeg) (J (p 4) v2.toNatClampNeg))) _ := k
      have k := ly_revb 2 (c' := (23, [(2, .int (v2 + (Int32.ofInt 1))), (0, .ref (p 0)), (1, .int v1)], [], me_w M (nt_u J (p 14) ((((Int32.ofInt 212) * v1) + v2).toNatClampNeg) (J (p 4) v2.toNatClampNeg)))) rfl k
      have k := nt_rn_w (a := [(2, .int (v2 + (Int32.ofInt 1))), (0, .ref (p 0)), (1, .int v1)]) (b := [(0, .ref (p 0)), (1, .int v1), (2, .int (v2 + (Int32.ofInt 1)))]) ⟨rfl, rfl, rfl, trivial⟩ rfl k
      have k := ih (v2 + (Int32.ofInt 1)) (nt_u J (p 14) ((((Int32.ofInt 212) * v1) + v2).toNatClampNeg) (J (p 4) v2.toNatClampNeg)) (lx_dec h27 hc) k
      rw [k, x234_23, if_neg h27]
def x234 (p : Nat → Nat) (v1 : Int32) (J : Nat → Nat → Int32) : Int32 × (Nat → Nat → Int32) := if (x145 v1.toInt64 (Int64.ofNat 0) 3) = 0 then (Int32.ofInt (-1), J)
  else (x234_23 p v1 ((Int32.ofInt 212).toNatClampNeg) (Int32.ofInt 0) (nt_u J (p 15) v1.toNatClampNeg (vp_nar .boolean (Int32.ofInt 1))))
theorem xt234 {X : nt_X} {d : Nat} {M : nt_M} {o : Option Value × nt_M} {p : Nat → Nat} {v1 : Int32} {J : Nat → Nat → Int32} (hp : xs_P M p) (hk15 : nt_k M (p 15) = 15) (k : nt_ev X d 234 [.ref (p 0), .int v1] (me_w M J) o) : o = (some (.int ((x234 p v1 J).1)), me_w M ((x234 p v1 J).2)) := by
  have k : nt_rn X d 234 (0, [(0, .ref (p 0)), (1, .int v1)], [], me_w M J) o := k
  have k := ly_revb 4 (c' := (6, [(0, .ref (p 0)), (1, .int v1)], [.long 3, .long (Int64.ofNat 0), .long v1.toInt64], me_w M J)) rfl k
  obtain ⟨d1, o1, ed, kc, k⟩ := lz_c (g := 145) (q := 0) (vs := [.long v1.toInt64, .long (Int64.ofNat 0), .long 3]) (rest := []) rfl rfl (by decide) (Or.inl ⟨_, rfl, rfl⟩) rfl k
  have e1 := xt145  kc
  subst e1
  have k : nt_rn X _ 234 (9, [(0, .ref (p 0)), (1, .int v1)], [.int (x145 v1.toInt64 (Int64.ofNat 0) 3)], me_w M J) _ := k
  have k := ly_revb 1 (c' := (if (x145 v1.toInt64 (Int64.ofNat 0) 3) = 0 then 12 else 14, [(0, .ref (p 0)), (1, .int v1)], [], me_w M J)) rfl k
  by_cases h9 : (x145 v1.toInt64 (Int64.ofNat 0) 3) = 0
  · rw [if_pos h9] at k
    have k := ly_revb 1 (c' := (13, [(0, .ref (p 0)), (1, .int v1)], [.int (Int32.ofInt (-1))], me_w M J)) rfl k
    have k := lz_ri rfl (by decide) k
    rw [k, x234, if_pos h9]
  · rw [if_neg h9] at k
    have k := ly_revb 1 (c' := (15, [(0, .ref (p 0)), (1, .int v1)], [.ref (p 0)], me_w M J)) rfl k
    have k := lz_get (a := (p 0)) (g := 1130) (M := me_w M J) (v := .ref (p 15)) rfl (nt_gfR rfl (hp.1 (0, 30, 15) (by decide))) k
    have k := ly_revb 2 (c' := (20, [(0, .ref (p 0)), (1, .int v1)], [.int (Int32.ofInt 1), .int v1, .ref (p 15)], me_w M J)) rfl k
    have k := mx_bast (q := v1.toNatClampNeg) rfl hk15 rfl k
    have k : nt_rn X _ 234 (21, [(0, .ref (p 0)), (1, .int v1)], [], me_w M (nt_u J (p 15) v1.toNatClampNeg (vp_nar .boolean (Int32.ofInt 1)))) _ := k
    have k := ly_revb 2 (c' := (23, [(2, .int (Int32.ofInt 0)), (0, .ref (p 0)), (1, .int v1)], [], me_w M (nt_u J (p 15) v1.toNatClampNeg (vp_nar .boolean (Int32.ofInt 1))))) rfl k
    have k := nt_rn_w (a := [(2, .int (Int32.ofInt 0)), (0, .ref (p 0)), (1, .int v1)]) (b := [(0, .ref (p 0)), (1, .int v1), (2, .int (Int32.ofInt 0))]) ⟨rfl, rfl, rfl, trivial⟩ rfl k
    have k := xt234_23 hp  ((Int32.ofInt 212).toNatClampNeg) (Int32.ofInt 0) (nt_u J (p 15) v1.toNatClampNeg (vp_nar .boolean (Int32.ofInt 1))) (lx_beg (by decide)) k
    rw [k, x234, if_neg h9]
theorem x234_23_frJ {p : Nat → Nat} {v1 : Int32} {b : Nat} : ∀ (c : Nat) (v2 : Int32) (J : Nat → Nat → Int32), b ≠ p 14 → b ≠ p 15 → (x234_23 p v1 c v2 J).2 b = J b := by
  intro c
  induction c with
  | zero =>
    intro v2 J n0 n1
    rw [x234_23]
    all_goals first | (dsimp only; exact (show J b = J b from rfl)) | exact (show J b = J b from rfl)
  | succ c ih =>
    intro v2 J n0 n1
    rw [x234_23]
    by_cases h : (Int32.ofInt 212) ≤ v2
    · rw [if_pos h]
      all_goals first | (dsimp only; exact (show J b = J b from rfl)) | exact (show J b = J b from rfl)
    · rw [if_neg h]
      exact (ih _ _ n0 n1).trans (mu_o n0)
theorem x234_frJ {p : Nat → Nat} {v1 : Int32} {J : Nat → Nat → Int32} {b : Nat} (n0 : b ≠ p 14) (n1 : b ≠ p 15) : (x234 p v1 J).2 b = J b := by
  unfold x234
  by_cases h : (x145 v1.toInt64 (Int64.ofNat 0) 3) = 0
  · rw [if_pos h]
    all_goals first | (dsimp only; exact (show J b = J b from rfl)) | exact (show J b = J b from rfl)
  · rw [if_neg h]
    exact (x234_23_frJ _ _ _ n0 n1).trans (mu_o n1)
/-! Model.back -/
def x235_25 (p : Nat → Nat) (v1 : Int32) : Nat → Int32 → (Nat → Nat → Int32) → Int32 × (Nat → Nat → Int32)
  | 0, v2, J => (J (p 4) 4, J)
  | c + 1, v2, J => if (Int32.ofInt 212) ≤ v2 then (J (p 4) 4, J)
    else (x235_25 p v1 c (v2 + (Int32.ofInt 1)) (nt_u J (p 4) v2.toNatClampNeg (J (p 14) ((((Int32.ofInt 212) * v1) + v2).toNatClampNeg))))
theorem xt235_25 {X : nt_X} {d : Nat} {M : nt_M} {o : Option Value × nt_M} {p : Nat → Nat} {v1 : Int32} (hp : xs_P M p) : ∀ (c : Nat) (v2 : Int32) (J : Nat → Nat → Int32), (Int32.ofInt 212).toInt - v2.toInt ≤ c → nt_rn X d 235 (25, [(0, .ref (p 0)), (1, .int v1), (2, .int v2)], [], me_w M J) o → o = (some (.int ((x235_25 p v1 c v2 J).1)), me_w M ((x235_25 p v1 c v2 J).2)) := by
  intro c
  induction c with
  | zero =>
    intro v2 J hc k
    have k := ly_revb 3 (c' := (if (Int32.ofInt 212) ≤ v2 then 56 else 32, [(0, .ref (p 0)), (1, .int v1), (2, .int v2)], [], me_w M J)) rfl k
    have h29 : (Int32.ofInt 212) ≤ v2 := lx_end hc
    rw [if_pos h29] at k
    have k := ly_revb 1 (c' := (57, [(0, .ref (p 0)), (1, .int v1), (2, .int v2)], [.ref (p 0)], me_w M J)) rfl k
    have k := lz_get (a := (p 0)) (g := 1127) (M := me_w M J) (v := .ref (p 4)) rfl (nt_gfR rfl (hp.1 (0, 27, 4) (by decide))) k
    have k := ly_revb 1 (c' := (61, [(0, .ref (p 0)), (1, .int v1), (2, .int v2)], [.int (Int32.ofInt 4), .ref (p 4)], me_w M J)) rfl k
    have k := mx_iald (v := J (p 4) 4) rfl (hp.2.2.1 4 (by omega)) ((congrArg (J (p 4)) (show (Int32.ofInt 4).toNatClampNeg = 4 from rfl)).trans (rfl)) k
    have k := lz_ri rfl (by decide) k
    rw [k, x235_25]
  | succ c ih =>
    intro v2 J hc k
    have k := ly_revb 3 (c' := (if (Int32.ofInt 212) ≤ v2 then 56 else 32, [(0, .ref (p 0)), (1, .int v1), (2, .int v2)], [], me_w M J)) rfl k
    by_cases h29 : (Int32.ofInt 212) ≤ v2
    · rw [if_pos h29] at k
      have k := ly_revb 1 (c' := (57, [(0, .ref (p 0)), (1, .int v1), (2, .int v2)], [.ref (p 0)], me_w M J)) rfl k
      have k := lz_get (a := (p 0)) (g := 1127) (M := me_w M J) (v := .ref (p 4)) rfl (nt_gfR rfl (hp.1 (0, 27, 4) (by decide))) k
      have k := ly_revb 1 (c' := (61, [(0, .ref (p 0)), (1, .int v1), (2, .int v2)], [.int (Int32.ofInt 4), .ref (p 4)], me_w M J)) rfl k
      have k := mx_iald (v := J (p 4) 4) rfl (hp.2.2.1 4 (by omega)) ((congrArg (J (p 4)) (show (Int32.ofInt 4).toNatClampNeg = 4 from rfl)).trans (rfl)) k
      have k := lz_ri rfl (by decide) k
      rw [k, x235_25, if_pos h29]
    · rw [if_neg h29] at k
      have k := ly_revb 1 (c' := (33, [(0, .ref (p 0)), (1, .int v1), (2, .int v2)], [.ref (p 0)], me_w M J)) rfl k
      have k := lz_get (a := (p 0)) (g := 1127) (M := me_w M J) (v := .ref (p 4)) rfl (nt_gfR rfl (hp.1 (0, 27, 4) (by decide))) k
      have k := ly_revb 2 (c' := (38, [(0, .ref (p 0)), (1, .int v1), (2, .int v2)], [.ref (p 0), .int v2, .ref (p 4)], me_w M J)) rfl k
      have k := lz_get (a := (p 0)) (g := 1129) (M := me_w M J) (v := .ref (p 14)) rfl (nt_gfR rfl (hp.1 (0, 29, 14) (by decide))) k
      have k := ly_revb 5 (c' := (48, [(0, .ref (p 0)), (1, .int v1), (2, .int v2)], [.int (((Int32.ofInt 212) * v1) + v2), .ref (p 14), .int v2, .ref (p 4)], me_w M J)) rfl k
      have k := mx_iald (v := J (p 14) ((((Int32.ofInt 212) * v1) + v2).toNatClampNeg)) rfl (hp.2.2.1 14 (by omega)) (rfl) k
      have k := mx_iast (q := v2.toNatClampNeg) rfl rfl k
      have k : nt_rn X _ 235 (50, [(0, .ref (p 0)), (1, .int v1), (2, .int v2)], [], me_w M (nt_u J (p 4) v2.toNatClampNeg (J (p 14) ((((Int32.ofInt 212) * v1) + v2).toNatClampNeg)))) _ := k
      have k := ly_revb 2 (c' := (25, [(2, .int (v2 + (Int32.ofInt 1))), (0, .ref (p 0)), (1, .int v1)], [], me_w M (nt_u J (p 4) v2.toNatClampNeg (J (p 14) ((((Int32.ofInt 212) * v1) + v2).toNatClampNeg))))) rfl k
      have k := nt_rn_w (a := [(2, .int (v2 + (Int32.ofInt 1))), (0, .ref (p 0)), (1, .int v1)]) (b := [(0, .ref (p 0)), (1, .int v1), (2, .int (v2 + (Int32.ofInt 1)))]) ⟨rfl, rfl, rfl, trivial⟩ rfl k
      have k := ih (v2 + (Int32.ofInt 1)) (nt_u J (p 4) v2.toNatClampNeg (J (p 14) ((((Int32.ofInt 212) * v1) + v2).toNatClampNeg))) (lx_dec h29 hc) k
      rw [k, x235_25, if_neg h29]
def x235 (p : Nat → Nat) (v1 : Int32) (J : Nat → Nat → Int32) : Int32 × (Nat → Nat → Int32) := if (x145 v1.toInt64 (Int64.ofNat 0) 3) = 0 then (Int32.ofInt (-1), J)
  else if (J (p 15) v1.toNatClampNeg) = 0 then (Int32.ofInt (-1), J)
    else (x235_25 p v1 ((Int32.ofInt 212).toNatClampNeg) (Int32.ofInt 0) J)
theorem xt235 {X : nt_X} {d : Nat} {M : nt_M} {o : Option Value × nt_M} {p : Nat → Nat} {v1 : Int32} {J : Nat → Nat → Int32} (hp : xs_P M p) (k : nt_ev X d 235 [.ref (p 0), .int v1] (me_w M J) o) : o = (some (.int ((x235 p v1 J).1)), me_w M ((x235 p v1 J).2)) := by
  have k : nt_rn X d 235 (0, [(0, .ref (p 0)), (1, .int v1)], [], me_w M J) o := k
  have k := ly_revb 4 (c' := (6, [(0, .ref (p 0)), (1, .int v1)], [.long 3, .long (Int64.ofNat 0), .long v1.toInt64], me_w M J)) rfl k
  obtain ⟨d1, o1, ed, kc, k⟩ := lz_c (g := 145) (q := 0) (vs := [.long v1.toInt64, .long (Int64.ofNat 0), .long 3]) (rest := []) rfl rfl (by decide) (Or.inl ⟨_, rfl, rfl⟩) rfl k
  have e1 := xt145  kc
  subst e1
  have k : nt_rn X _ 235 (9, [(0, .ref (p 0)), (1, .int v1)], [.int (x145 v1.toInt64 (Int64.ofNat 0) 3)], me_w M J) _ := k
  have k := ly_revb 1 (c' := (if (x145 v1.toInt64 (Int64.ofNat 0) 3) = 0 then 21 else 12, [(0, .ref (p 0)), (1, .int v1)], [], me_w M J)) rfl k
  by_cases h9 : (x145 v1.toInt64 (Int64.ofNat 0) 3) = 0
  · rw [if_pos h9] at k
    have k := ly_revb 1 (c' := (22, [(0, .ref (p 0)), (1, .int v1)], [.int (Int32.ofInt (-1))], me_w M J)) rfl k
    have k := lz_ri rfl (by decide) k
    rw [k, x235, if_pos h9]
  · rw [if_neg h9] at k
    have k := ly_revb 1 (c' := (13, [(0, .ref (p 0)), (1, .int v1)], [.ref (p 0)], me_w M J)) rfl k
    have k := lz_get (a := (p 0)) (g := 1130) (M := me_w M J) (v := .ref (p 15)) rfl (nt_gfR rfl (hp.1 (0, 30, 15) (by decide))) k
    have k := ly_revb 1 (c' := (17, [(0, .ref (p 0)), (1, .int v1)], [.int v1, .ref (p 15)], me_w M J)) rfl k
    have k := mx_bald (v := J (p 15) v1.toNatClampNeg) rfl (rfl) k
    have k := ly_revb 1 (c' := (if (J (p 15) v1.toNatClampNeg) = 0 then 21 else 23, [(0, .ref (p 0)), (1, .int v1)], [], me_w M J)) rfl k
    by_cases h18 : (J (p 15) v1.toNatClampNeg) = 0
    · rw [if_pos h18] at k
      have k := ly_revb 1 (c' := (22, [(0, .ref (p 0)), (1, .int v1)], [.int (Int32.ofInt (-1))], me_w M J)) rfl k
      have k := lz_ri rfl (by decide) k
      rw [k, x235, if_neg h9, if_pos h18]
    · rw [if_neg h18] at k
      have k := ly_revb 2 (c' := (25, [(2, .int (Int32.ofInt 0)), (0, .ref (p 0)), (1, .int v1)], [], me_w M J)) rfl k
      have k := nt_rn_w (a := [(2, .int (Int32.ofInt 0)), (0, .ref (p 0)), (1, .int v1)]) (b := [(0, .ref (p 0)), (1, .int v1), (2, .int (Int32.ofInt 0))]) ⟨rfl, rfl, rfl, trivial⟩ rfl k
      have k := xt235_25 hp  ((Int32.ofInt 212).toNatClampNeg) (Int32.ofInt 0) J (lx_beg (by decide)) k
      rw [k, x235, if_neg h9, if_neg h18]
theorem x235_25_frJ {p : Nat → Nat} {v1 : Int32} {b : Nat} : ∀ (c : Nat) (v2 : Int32) (J : Nat → Nat → Int32), b ≠ p 4 → (x235_25 p v1 c v2 J).2 b = J b := by
  intro c
  induction c with
  | zero =>
    intro v2 J n0
    rw [x235_25]
    all_goals first | (dsimp only; exact (show J b = J b from rfl)) | exact (show J b = J b from rfl)
  | succ c ih =>
    intro v2 J n0
    rw [x235_25]
    by_cases h : (Int32.ofInt 212) ≤ v2
    · rw [if_pos h]
      all_goals first | (dsimp only; exact (show J b = J b from rfl)) | exact (show J b = J b from rfl)
    · rw [if_neg h]
      exact (ih _ _ n0).trans (mu_o n0)
theorem x235_frJ {p : Nat → Nat} {v1 : Int32} {J : Nat → Nat → Int32} {b : Nat} (n0 : b ≠ p 4) : (x235 p v1 J).2 b = J b := by
  unfold x235
  by_cases h : (x145 v1.toInt64 (Int64.ofNat 0) 3) = 0
  · rw [if_pos h]
    all_goals first | (dsimp only; exact (show J b = J b from rfl)) | exact (show J b = J b from rfl)
  · rw [if_neg h]
    by_cases h : (J (p 15) v1.toNatClampNeg) = 0
    · rw [if_pos h]
      all_goals first | (dsimp only; exact (show J b = J b from rfl)) | exact (show J b = J b from rfl)
    · rw [if_neg h]
      exact (x235_25_frJ _ _ _ n0).trans (rfl)
end
section
/-! years, the other side -/
theorem xb_dec {x : Int32} {c : Nat} (h : ¬ x = 0) (hc : x.toBitVec.toNat ≤ c + 1) : (x &&& (x - Int32.ofInt 1)).toBitVec.toNat ≤ c := by
  have h1 : x.toBitVec.toNat ≠ 0 := fun e => h (Int32.toBitVec_inj.mp (BitVec.eq_of_toNat_eq (e.trans (by decide))))
  have h3 : (Int32.ofInt 1).toBitVec.toNat = 1 := by decide
  have h4 := x.toBitVec.isLt
  have h2 : (x - Int32.ofInt 1).toBitVec.toNat = x.toBitVec.toNat - 1 := by
    rw [Int32.toBitVec_sub, BitVec.toNat_sub, h3]
    omega
  rw [Int32.toBitVec_and, BitVec.toNat_and]
  have h5 : x.toBitVec.toNat &&& (x - Int32.ofInt 1).toBitVec.toNat ≤ (x - Int32.ofInt 1).toBitVec.toNat := Nat.and_le_right
  omega
theorem xb_end {x : Int32} (hc : x.toBitVec.toNat ≤ 0) : x = 0 := Int32.toBitVec_inj.mp (BitVec.eq_of_toNat_eq ((Nat.le_zero.mp hc).trans (by decide)))
/-! Model.bits -/
def x214_4  : Nat → Int32 → Int32 → Int32
  | 0, v1, v2 => v1
  | c + 1, v1, v2 => if v2 = 0 then v1
    else (x214_4 c (v1 + (Int32.ofInt 1)) (v2 &&& (v2 - (Int32.ofInt 1))))
theorem xt214_4 {X : nt_X} {d : Nat} {M : nt_M} {o : Option Value × nt_M} {v0 : Int32} {J : Nat → Nat → Int32}  : ∀ (c : Nat) (v1 : Int32) (v2 : Int32), (v2.toBitVec.toNat ≤ c) → nt_rn X d 214 (4, [(0, .int v0), (1, .int v1), (2, .int v2)], [], me_w M J) o → o = (some (.int (x214_4 c v1 v2)), me_w M J) := by
  intro c
  induction c with
  | zero =>
    intro v1 v2 hc k
    have k := ly_revb 2 (c' := (if v2 = 0 then 20 else 8, [(0, .int v0), (1, .int v1), (2, .int v2)], [], me_w M J)) rfl k
    have h5 : v2 = 0 := xb_end hc
    rw [if_pos h5] at k
    have k := ly_revb 1 (c' := (21, [(0, .int v0), (1, .int v1), (2, .int v2)], [.int v1], me_w M J)) rfl k
    have k := lz_ri rfl (by decide) k
    rw [k, x214_4]
  | succ c ih =>
    intro v1 v2 hc k
    have k := ly_revb 2 (c' := (if v2 = 0 then 20 else 8, [(0, .int v0), (1, .int v1), (2, .int v2)], [], me_w M J)) rfl k
    by_cases h5 : v2 = 0
    · rw [if_pos h5] at k
      have k := ly_revb 1 (c' := (21, [(0, .int v0), (1, .int v1), (2, .int v2)], [.int v1], me_w M J)) rfl k
      have k := lz_ri rfl (by decide) k
      rw [k, x214_4, if_pos h5]
    · rw [if_neg h5] at k
      have k := ly_revb 8 (c' := (4, [(2, .int (v2 &&& (v2 - (Int32.ofInt 1)))), (1, .int (v1 + (Int32.ofInt 1))), (0, .int v0)], [], me_w M J)) rfl k
      have k := nt_rn_w (a := [(2, .int (v2 &&& (v2 - (Int32.ofInt 1)))), (1, .int (v1 + (Int32.ofInt 1))), (0, .int v0)]) (b := [(0, .int v0), (1, .int (v1 + (Int32.ofInt 1))), (2, .int (v2 &&& (v2 - (Int32.ofInt 1))))]) ⟨rfl, rfl, rfl, trivial⟩ rfl k
      have k := ih (v1 + (Int32.ofInt 1)) (v2 &&& (v2 - (Int32.ofInt 1))) (xb_dec h5 hc) k
      rw [k, x214_4, if_neg h5]
def x214 (v0 : Int32) : Int32 := (x214_4 v0.toBitVec.toNat (Int32.ofInt 0) v0)
theorem xt214 {X : nt_X} {d : Nat} {M : nt_M} {o : Option Value × nt_M} {v0 : Int32} {J : Nat → Nat → Int32}  (k : nt_ev X d 214 [.int v0] (me_w M J) o) : o = (some (.int (x214 v0)), me_w M J) := by
  have k : nt_rn X d 214 (0, [(0, .int v0)], [], me_w M J) o := k
  have k := ly_revb 4 (c' := (4, [(2, .int v0), (1, .int (Int32.ofInt 0)), (0, .int v0)], [], me_w M J)) rfl k
  have k := nt_rn_w (a := [(2, .int v0), (1, .int (Int32.ofInt 0)), (0, .int v0)]) (b := [(0, .int v0), (1, .int (Int32.ofInt 0)), (2, .int v0)]) ⟨rfl, rfl, rfl, trivial⟩ rfl k
  have k := xt214_4   v0.toBitVec.toNat (Int32.ofInt 0) v0 (Nat.le_refl _) k
  rw [k, x214]
/-! Model.firstIn -/
def x232_2 (p : Nat → Nat) (v1 : Int32) (J : Nat → Nat → Int32) : Nat → Int32 → Int32
  | 0, v2 => (Int32.ofInt (-1))
  | c + 1, v2 => if (J (p 4) 2) ≤ v2 then (Int32.ofInt (-1))
    else if (x171 p v2 v1 J) = 0 then (x232_2 p v1 J c (v2 + (Int32.ofInt 1)))
      else v2
theorem xt232_2 {X : nt_X} {d : Nat} {M : nt_M} {o : Option Value × nt_M} {p : Nat → Nat} {v1 : Int32} {J : Nat → Nat → Int32} (hp : xs_P M p) : ∀ (c : Nat) (v2 : Int32), (J (p 4) 2).toInt - v2.toInt ≤ c → nt_rn X d 232 (2, [(0, .ref (p 0)), (1, .int v1), (2, .int v2)], [], me_w M J) o → o = (some (.int (x232_2 p v1 J c v2)), me_w M J) := by
  intro c
  induction c with
  | zero =>
    intro v2 hc k
    have k := ly_revb 2 (c' := (4, [(0, .ref (p 0)), (1, .int v1), (2, .int v2)], [.ref (p 0), .int v2], me_w M J)) rfl k
    have k := lz_get (a := (p 0)) (g := 1127) (M := me_w M J) (v := .ref (p 4)) rfl (nt_gfR rfl (hp.1 (0, 27, 4) (by decide))) k
    have k := ly_revb 1 (c' := (8, [(0, .ref (p 0)), (1, .int v1), (2, .int v2)], [.int (Int32.ofInt 2), .ref (p 4), .int v2], me_w M J)) rfl k
    have k := mx_iald (v := J (p 4) 2) rfl (hp.2.2.1 4 (by omega)) ((congrArg (J (p 4)) (show (Int32.ofInt 2).toNatClampNeg = 2 from rfl)).trans (rfl)) k
    have k := ly_revb 1 (c' := (if (J (p 4) 2) ≤ v2 then 29 else 12, [(0, .ref (p 0)), (1, .int v1), (2, .int v2)], [], me_w M J)) rfl k
    have h9 : (J (p 4) 2) ≤ v2 := lx_end hc
    rw [if_pos h9] at k
    have k := ly_revb 1 (c' := (30, [(0, .ref (p 0)), (1, .int v1), (2, .int v2)], [.int (Int32.ofInt (-1))], me_w M J)) rfl k
    have k := lz_ri rfl (by decide) k
    rw [k, x232_2]
  | succ c ih =>
    intro v2 hc k
    have k := ly_revb 2 (c' := (4, [(0, .ref (p 0)), (1, .int v1), (2, .int v2)], [.ref (p 0), .int v2], me_w M J)) rfl k
    have k := lz_get (a := (p 0)) (g := 1127) (M := me_w M J) (v := .ref (p 4)) rfl (nt_gfR rfl (hp.1 (0, 27, 4) (by decide))) k
    have k := ly_revb 1 (c' := (8, [(0, .ref (p 0)), (1, .int v1), (2, .int v2)], [.int (Int32.ofInt 2), .ref (p 4), .int v2], me_w M J)) rfl k
    have k := mx_iald (v := J (p 4) 2) rfl (hp.2.2.1 4 (by omega)) ((congrArg (J (p 4)) (show (Int32.ofInt 2).toNatClampNeg = 2 from rfl)).trans (rfl)) k
    have k := ly_revb 1 (c' := (if (J (p 4) 2) ≤ v2 then 29 else 12, [(0, .ref (p 0)), (1, .int v1), (2, .int v2)], [], me_w M J)) rfl k
    by_cases h9 : (J (p 4) 2) ≤ v2
    · rw [if_pos h9] at k
      have k := ly_revb 1 (c' := (30, [(0, .ref (p 0)), (1, .int v1), (2, .int v2)], [.int (Int32.ofInt (-1))], me_w M J)) rfl k
      have k := lz_ri rfl (by decide) k
      rw [k, x232_2, if_pos h9]
    · rw [if_neg h9] at k
      have k := ly_revb 3 (c' := (15, [(0, .ref (p 0)), (1, .int v1), (2, .int v2)], [.int v1, .int v2, .ref (p 0)], me_w M J)) rfl k
      obtain ⟨d1, o1, ed, kc, k⟩ := lz_c (g := 171) (q := 1) (vs := [.ref (p 0), .int v2, .int v1]) (rest := []) rfl rfl (by decide) (Or.inr (Or.inl ⟨_, rfl, rfl⟩)) rfl k
      have e1 := xt171 hp kc
      subst e1
      have k : nt_rn X _ 232 (18, [(0, .ref (p 0)), (1, .int v1), (2, .int v2)], [.int (x171 p v2 v1 J)], me_w M J) _ := k
      have k := ly_revb 1 (c' := (if (x171 p v2 v1 J) = 0 then 23 else 21, [(0, .ref (p 0)), (1, .int v1), (2, .int v2)], [], me_w M J)) rfl k
      by_cases h18 : (x171 p v2 v1 J) = 0
      · rw [if_pos h18] at k
        have k := ly_revb 2 (c' := (2, [(2, .int (v2 + (Int32.ofInt 1))), (0, .ref (p 0)), (1, .int v1)], [], me_w M J)) rfl k
        have k := nt_rn_w (a := [(2, .int (v2 + (Int32.ofInt 1))), (0, .ref (p 0)), (1, .int v1)]) (b := [(0, .ref (p 0)), (1, .int v1), (2, .int (v2 + (Int32.ofInt 1)))]) ⟨rfl, rfl, rfl, trivial⟩ rfl k
        have k := ih (v2 + (Int32.ofInt 1)) (lx_dec h9 hc) k
        rw [k, x232_2, if_neg h9, if_pos h18]
      · rw [if_neg h18] at k
        have k := ly_revb 1 (c' := (22, [(0, .ref (p 0)), (1, .int v1), (2, .int v2)], [.int v2], me_w M J)) rfl k
        have k := lz_ri rfl (by decide) k
        rw [k, x232_2, if_neg h9, if_neg h18]
theorem x232_2_rule {p : Nat → Nat} {v1 : Int32} {J : Nat → Nat → Int32} {I : Nat → Int32 → Prop} {Q : Int32 → Prop} (h0 : ∀ (v2 : Int32), I 0 v2 → Q (Int32.ofInt (-1))) (h1 : ∀ (c : Nat) (v2 : Int32), I (c + 1) v2 →
    if (J (p 4) 2) ≤ v2 then (Q (Int32.ofInt (-1)))
    else if (x171 p v2 v1 J) = 0 then (I c (v2 + (Int32.ofInt 1)))
      else (Q v2)) : ∀ (c : Nat) (v2 : Int32), I c v2 → Q (x232_2 p v1 J c v2) := by
  intro c
  induction c with
  | zero =>
    intro v2 hi
    rw [x232_2]
    exact h0 v2 hi
  | succ c ih =>
    intro v2 hi
    have hi := h1 c v2 hi
    rw [x232_2]
    by_cases h : (J (p 4) 2) ≤ v2
    · rw [if_pos h] at hi ⊢
      exact hi
    · rw [if_neg h] at hi ⊢
      by_cases h : (x171 p v2 v1 J) = 0
      · rw [if_pos h] at hi ⊢
        exact ih _ hi
      · rw [if_neg h] at hi ⊢
        exact hi
def x232 (p : Nat → Nat) (v1 : Int32) (J : Nat → Nat → Int32) : Int32 := (x232_2 p v1 J ((J (p 4) 2).toNatClampNeg) (Int32.ofInt 0))
theorem xt232 {X : nt_X} {d : Nat} {M : nt_M} {o : Option Value × nt_M} {p : Nat → Nat} {v1 : Int32} {J : Nat → Nat → Int32} (hp : xs_P M p) (k : nt_ev X d 232 [.ref (p 0), .int v1] (me_w M J) o) : o = (some (.int (x232 p v1 J)), me_w M J) := by
  have k : nt_rn X d 232 (0, [(0, .ref (p 0)), (1, .int v1)], [], me_w M J) o := k
  have k := ly_revb 2 (c' := (2, [(2, .int (Int32.ofInt 0)), (0, .ref (p 0)), (1, .int v1)], [], me_w M J)) rfl k
  have k := nt_rn_w (a := [(2, .int (Int32.ofInt 0)), (0, .ref (p 0)), (1, .int v1)]) (b := [(0, .ref (p 0)), (1, .int v1), (2, .int (Int32.ofInt 0))]) ⟨rfl, rfl, rfl, trivial⟩ rfl k
  have k := xt232_2 hp  ((J (p 4) 2).toNatClampNeg) (Int32.ofInt 0) (lx_beg (by decide)) k
  rw [k, x232]
theorem xw_232 {p : Nat → Nat} {s : Int32} {J : Nat → Nat → Int32} (hW : xr_W (J (p 4))) : x232 p s J = Int32.ofInt (-1) ∨ (0 ≤ (x232 p s J).toInt ∧ (x232 p s J).toInt ≤ 23) := by
  unfold x232
  refine x232_2_rule (I := fun _ v2 => 0 ≤ v2.toInt) (Q := fun r => r = Int32.ofInt (-1) ∨ (0 ≤ r.toInt ∧ r.toInt ≤ 23)) ?_ ?_ _ _ (by decide)
  · intro v2 h
    exact Or.inl rfl
  · intro c v2 h
    by_cases h1 : J (p 4) 2 ≤ v2
    · rw [if_pos h1]
      exact Or.inl rfl
    · rw [if_neg h1]
      have l24 := xi_lt h1 (xr_2 hW).2
      by_cases h2 : x171 p v2 s J = 0
      · rw [if_pos h2]
        exact xi_nn h1 h
      · rw [if_neg h2]
        exact Or.inr ⟨h, by omega⟩
theorem xw_dr {p : Nat → Nat} {s v : Int32} {J : Nat → Nat → Int32} (hW : xr_W (J (p 4))) (h : 0 ≤ x232 p s J) : xr_W (nt_u J (p 4) ((((Int32.ofInt 52) + ((Int32.ofInt 5) * (x232 p s J))) + (Int32.ofInt 1)).toNatClampNeg) v (p 4)) ∧ nt_u J (p 4) ((((Int32.ofInt 52) + ((Int32.ofInt 5) * (x232 p s J))) + (Int32.ofInt 1)).toNatClampNeg) v (p 4) 1 = J (p 4) 1 := by
  rcases xw_232 (s := s) hW with e | e
  · rw [e] at h
    exact absurd h (by decide)
  · rw [xi_p1 e.1 (by omega)]
    exact ⟨xr_up hW (xr_any (xr_bp (by omega) (by omega) (by omega) (by omega))), me_uk (by omega)⟩
theorem xw_229 {p : Nat → Nat} {J : Nat → Nat → Int32} (hn : p 7 ≠ p 4) (h : xr_W (J (p 7))) : xr_W (x229 p J (p 4)) := xr_ae (zpb hn).1 h
/-! Model.years -/
def x231_101 (p : Nat → Nat) (v1 : Int32) (v2 : Int32) (v3 : Int32) (v4 : Int32) (v5 : Int32) (v8 : Int32) (v9 : Int32) (v10 : Int32) (L : Nat → Nat → Int64) : Nat → Int64 → Int32 → (Nat → Nat → Int32) → Int64 × (Nat → Nat → Int32)
  | 0, v6, v11, J => (v6, J)
  | c + 1, v6, v11, J => if (J (p 4) 1) ≤ v11 then (v6, J)
    else if (x169 p v11 (Int32.ofInt 4) J) = (Int32.ofInt 1) then if 0 ≤ (x232 p v11 J) then if 0 ≤ (lg_cmp (((((v6 * 1103515245) + 12345) - ((v6 * 1103515245) + 12345) / 2147483648 * 2147483648) / 65536) - ((((v6 * 1103515245) + 12345) - ((v6 * 1103515245) + 12345) / 2147483648 * 2147483648) / 65536) / 100 * 100) v4.toInt64) then (x231_101 p v1 v2 v3 v4 v5 v8 v9 v10 L c (((v6 * 1103515245) + 12345) - ((v6 * 1103515245) + 12345) / 2147483648 * 2147483648) (v11 + (Int32.ofInt 1)) J)
          else if (x173 p (x232 p v11 J) (Int32.ofInt 1) J) ≤ (Int32.ofInt 1) then (x231_101 p v1 v2 v3 v4 v5 v8 v9 v10 L c (((v6 * 1103515245) + 12345) - ((v6 * 1103515245) + 12345) / 2147483648 * 2147483648) (v11 + (Int32.ofInt 1)) J)
            else (x231_101 p v1 v2 v3 v4 v5 v8 v9 v10 L c (((v6 * 1103515245) + 12345) - ((v6 * 1103515245) + 12345) / 2147483648 * 2147483648) (v11 + (Int32.ofInt 1)) (nt_u J (p 4) ((((Int32.ofInt 52) + ((Int32.ofInt 5) * (x232 p v11 J))) + (Int32.ofInt 1)).toNatClampNeg) ((J (p 4) ((((Int32.ofInt 52) + ((Int32.ofInt 5) * (x232 p v11 J))) + (Int32.ofInt 1)).toNatClampNeg)) - (Int32.ofInt 1))))
        else (x231_101 p v1 v2 v3 v4 v5 v8 v9 v10 L c v6 (v11 + (Int32.ofInt 1)) J)
      else (x231_101 p v1 v2 v3 v4 v5 v8 v9 v10 L c v6 (v11 + (Int32.ofInt 1)) J)
theorem xt231_101 {X : nt_X} {d : Nat} {M : nt_M} {o : Option Value × nt_M} {p : Nat → Nat} {v1 : Int32} {v2 : Int32} {v3 : Int32} {v4 : Int32} {v5 : Int32} {v8 : Int32} {v9 : Int32} {v10 : Int32} {L : Nat → Nat → Int64} (hp : xs_P M p) : ∀ (c : Nat) (v6 : Int64) (v11 : Int32) (v12 : Int32) (J : Nat → Nat → Int32), (xr_W (J (p 4)) ∧ (J (p 4) 1).toInt - v11.toInt ≤ c ∧ 0 ≤ v11.toInt) → nt_rn X d 231 (101, [(0, .ref (p 0)), (1, .int v1), (2, .int v2), (3, .int v3), (4, .int v4), (5, .int v5), (6, .long v6), (8, .int v8), (9, .int v9), (10, .int v10), (11, .int v11), (12, .int v12)], [], me_w (lw M L) J) o → ∃ (w11 : Int32) (w12 : Int32), nt_rn X d 231 (211, [(0, .ref (p 0)), (1, .int v1), (2, .int v2), (3, .int v3), (4, .int v4), (5, .int v5), (6, .long ((x231_101 p v1 v2 v3 v4 v5 v8 v9 v10 L c v6 v11 J).1)), (8, .int v8), (9, .int v9), (10, .int v10), (11, .int w11), (12, .int w12)], [], me_w (lw M L) ((x231_101 p v1 v2 v3 v4 v5 v8 v9 v10 L c v6 v11 J).2)) o := by
  intro c
  induction c with
  | zero =>
    intro v6 v11 v12 J hc k
    have k := ly_revb 2 (c' := (104, [(0, .ref (p 0)), (1, .int v1), (2, .int v2), (3, .int v3), (4, .int v4), (5, .int v5), (6, .long v6), (8, .int v8), (9, .int v9), (10, .int v10), (11, .int v11), (12, .int v12)], [.ref (p 0), .int v11], me_w (lw M L) J)) rfl k
    have k := lz_get (a := (p 0)) (g := 1127) (M := me_w (lw M L) J) (v := .ref (p 4)) rfl (nt_gfR rfl (mw_RL (hp.1 (0, 27, 4) (by decide)))) k
    have k := ly_revb 1 (c' := (108, [(0, .ref (p 0)), (1, .int v1), (2, .int v2), (3, .int v3), (4, .int v4), (5, .int v5), (6, .long v6), (8, .int v8), (9, .int v9), (10, .int v10), (11, .int v11), (12, .int v12)], [.int (Int32.ofInt 1), .ref (p 4), .int v11], me_w (lw M L) J)) rfl k
    have k := mx_iald (v := J (p 4) 1) rfl (hp.2.2.1 4 (by omega)) ((congrArg (J (p 4)) (show (Int32.ofInt 1).toNatClampNeg = 1 from rfl)).trans (rfl)) k
    have k := ly_revb 1 (c' := (if (J (p 4) 1) ≤ v11 then 211 else 112, [(0, .ref (p 0)), (1, .int v1), (2, .int v2), (3, .int v3), (4, .int v4), (5, .int v5), (6, .long v6), (8, .int v8), (9, .int v9), (10, .int v10), (11, .int v11), (12, .int v12)], [], me_w (lw M L) J)) rfl k
    have h109 : (J (p 4) 1) ≤ v11 := lx_end hc.2.1
    rw [if_pos h109] at k
    have k := nt_rn_w (a := [(0, .ref (p 0)), (1, .int v1), (2, .int v2), (3, .int v3), (4, .int v4), (5, .int v5), (6, .long v6), (8, .int v8), (9, .int v9), (10, .int v10), (11, .int v11), (12, .int v12)]) (b := [(0, .ref (p 0)), (1, .int v1), (2, .int v2), (3, .int v3), (4, .int v4), (5, .int v5), (6, .long v6), (8, .int v8), (9, .int v9), (10, .int v10), (11, .int v11), (12, .int v12)]) ⟨rfl, rfl, rfl, rfl, rfl, rfl, rfl, rfl, rfl, rfl, rfl, rfl, trivial⟩ rfl k
    rw [x231_101]
    exact ⟨_, _, k⟩
  | succ c ih =>
    intro v6 v11 v12 J hc k
    have k := ly_revb 2 (c' := (104, [(0, .ref (p 0)), (1, .int v1), (2, .int v2), (3, .int v3), (4, .int v4), (5, .int v5), (6, .long v6), (8, .int v8), (9, .int v9), (10, .int v10), (11, .int v11), (12, .int v12)], [.ref (p 0), .int v11], me_w (lw M L) J)) rfl k
    have k := lz_get (a := (p 0)) (g := 1127) (M := me_w (lw M L) J) (v := .ref (p 4)) rfl (nt_gfR rfl (mw_RL (hp.1 (0, 27, 4) (by decide)))) k
    have k := ly_revb 1 (c' := (108, [(0, .ref (p 0)), (1, .int v1), (2, .int v2), (3, .int v3), (4, .int v4), (5, .int v5), (6, .long v6), (8, .int v8), (9, .int v9), (10, .int v10), (11, .int v11), (12, .int v12)], [.int (Int32.ofInt 1), .ref (p 4), .int v11], me_w (lw M L) J)) rfl k
    have k := mx_iald (v := J (p 4) 1) rfl (hp.2.2.1 4 (by omega)) ((congrArg (J (p 4)) (show (Int32.ofInt 1).toNatClampNeg = 1 from rfl)).trans (rfl)) k
    have k := ly_revb 1 (c' := (if (J (p 4) 1) ≤ v11 then 211 else 112, [(0, .ref (p 0)), (1, .int v1), (2, .int v2), (3, .int v3), (4, .int v4), (5, .int v5), (6, .long v6), (8, .int v8), (9, .int v9), (10, .int v10), (11, .int v11), (12, .int v12)], [], me_w (lw M L) J)) rfl k
    by_cases h109 : (J (p 4) 1) ≤ v11
    · rw [if_pos h109] at k
      have k := nt_rn_w (a := [(0, .ref (p 0)), (1, .int v1), (2, .int v2), (3, .int v3), (4, .int v4), (5, .int v5), (6, .long v6), (8, .int v8), (9, .int v9), (10, .int v10), (11, .int v11), (12, .int v12)]) (b := [(0, .ref (p 0)), (1, .int v1), (2, .int v2), (3, .int v3), (4, .int v4), (5, .int v5), (6, .long v6), (8, .int v8), (9, .int v9), (10, .int v10), (11, .int v11), (12, .int v12)]) ⟨rfl, rfl, rfl, rfl, rfl, rfl, rfl, rfl, rfl, rfl, rfl, rfl, trivial⟩ rfl k
      rw [x231_101, if_pos h109]
      exact ⟨_, _, k⟩
    · rw [if_neg h109] at k
      have k := ly_revb 3 (c' := (116, [(0, .ref (p 0)), (1, .int v1), (2, .int v2), (3, .int v3), (4, .int v4), (5, .int v5), (6, .long v6), (8, .int v8), (9, .int v9), (10, .int v10), (11, .int v11), (12, .int v12)], [.int (Int32.ofInt 4), .int v11, .ref (p 0)], me_w (lw M L) J)) rfl k
      obtain ⟨d1, o1, ed, kc, k⟩ := lz_c (g := 169) (q := 1) (vs := [.ref (p 0), .int v11, .int (Int32.ofInt 4)]) (rest := []) rfl rfl (by decide) (Or.inr (Or.inl ⟨_, rfl, rfl⟩)) rfl k
      have e1 := xt169 (xs_lp hp) kc
      subst e1
      have k : nt_rn X _ 231 (119, [(0, .ref (p 0)), (1, .int v1), (2, .int v2), (3, .int v3), (4, .int v4), (5, .int v5), (6, .long v6), (8, .int v8), (9, .int v9), (10, .int v10), (11, .int v11), (12, .int v12)], [.int (x169 p v11 (Int32.ofInt 4) J)], me_w (lw M L) J) _ := k
      have k := ly_revb 2 (c' := (if (x169 p v11 (Int32.ofInt 4) J) = (Int32.ofInt 1) then 123 else 132, [(0, .ref (p 0)), (1, .int v1), (2, .int v2), (3, .int v3), (4, .int v4), (5, .int v5), (6, .long v6), (8, .int v8), (9, .int v9), (10, .int v10), (11, .int v11), (12, .int v12)], [], me_w (lw M L) J)) rfl k
      by_cases h120 : (x169 p v11 (Int32.ofInt 4) J) = (Int32.ofInt 1)
      · rw [if_pos h120] at k
        have k := ly_revb 2 (c' := (126, [(0, .ref (p 0)), (1, .int v1), (2, .int v2), (3, .int v3), (4, .int v4), (5, .int v5), (6, .long v6), (8, .int v8), (9, .int v9), (10, .int v10), (11, .int v11), (12, .int v12)], [.int v11, .ref (p 0)], me_w (lw M L) J)) rfl k
        obtain ⟨d1, o1, ed, kc, k⟩ := lz_c (g := 232) (q := 1) (vs := [.ref (p 0), .int v11]) (rest := []) rfl rfl (by decide) (Or.inr (Or.inl ⟨_, rfl, rfl⟩)) rfl k
        have e1 := xt232 (xs_lp hp) kc
        subst e1
        have k : nt_rn X _ 231 (129, [(0, .ref (p 0)), (1, .int v1), (2, .int v2), (3, .int v3), (4, .int v4), (5, .int v5), (6, .long v6), (8, .int v8), (9, .int v9), (10, .int v10), (11, .int v11), (12, .int v12)], [.int (x232 p v11 J)], me_w (lw M L) J) _ := k
        have k := ly_revb 4 (c' := (if 0 ≤ (x232 p v11 J) then 143 else 140, [(12, .int (x232 p v11 J)), (0, .ref (p 0)), (1, .int v1), (2, .int v2), (3, .int v3), (4, .int v4), (5, .int v5), (6, .long v6), (8, .int v8), (9, .int v9), (10, .int v10), (11, .int v11)], [], me_w (lw M L) J)) rfl k
        by_cases h137 : 0 ≤ (x232 p v11 J)
        · rw [if_pos h137] at k
          have k := ly_revb 6 (c' := (156, [(12, .int (x232 p v11 J)), (0, .ref (p 0)), (1, .int v1), (2, .int v2), (3, .int v3), (4, .int v4), (5, .int v5), (6, .long v6), (8, .int v8), (9, .int v9), (10, .int v10), (11, .int v11)], [.long 2147483648, .long ((v6 * 1103515245) + 12345)], me_w (lw M L) J)) rfl k
          obtain ⟨hd156, k⟩ := mx_lrem rfl k
          have k := ly_revb 3 (c' := (164, [(6, .long (((v6 * 1103515245) + 12345) - ((v6 * 1103515245) + 12345) / 2147483648 * 2147483648)), (12, .int (x232 p v11 J)), (0, .ref (p 0)), (1, .int v1), (2, .int v2), (3, .int v3), (4, .int v4), (5, .int v5), (8, .int v8), (9, .int v9), (10, .int v10), (11, .int v11)], [.long 65536, .long (((v6 * 1103515245) + 12345) - ((v6 * 1103515245) + 12345) / 2147483648 * 2147483648)], me_w (lw M L) J)) rfl k
          obtain ⟨hd164, k⟩ := mx_ldiv rfl k
          have k := ly_revb 1 (c' := (168, [(6, .long (((v6 * 1103515245) + 12345) - ((v6 * 1103515245) + 12345) / 2147483648 * 2147483648)), (12, .int (x232 p v11 J)), (0, .ref (p 0)), (1, .int v1), (2, .int v2), (3, .int v3), (4, .int v4), (5, .int v5), (8, .int v8), (9, .int v9), (10, .int v10), (11, .int v11)], [.long 100, .long ((((v6 * 1103515245) + 12345) - ((v6 * 1103515245) + 12345) / 2147483648 * 2147483648) / 65536)], me_w (lw M L) J)) rfl k
          obtain ⟨hd168, k⟩ := mx_lrem rfl k
          have k := ly_revb 4 (c' := (if 0 ≤ (lg_cmp (((((v6 * 1103515245) + 12345) - ((v6 * 1103515245) + 12345) / 2147483648 * 2147483648) / 65536) - ((((v6 * 1103515245) + 12345) - ((v6 * 1103515245) + 12345) / 2147483648 * 2147483648) / 65536) / 100 * 100) v4.toInt64) then 205 else 176, [(6, .long (((v6 * 1103515245) + 12345) - ((v6 * 1103515245) + 12345) / 2147483648 * 2147483648)), (12, .int (x232 p v11 J)), (0, .ref (p 0)), (1, .int v1), (2, .int v2), (3, .int v3), (4, .int v4), (5, .int v5), (8, .int v8), (9, .int v9), (10, .int v10), (11, .int v11)], [], me_w (lw M L) J)) rfl k
          by_cases h173 : 0 ≤ (lg_cmp (((((v6 * 1103515245) + 12345) - ((v6 * 1103515245) + 12345) / 2147483648 * 2147483648) / 65536) - ((((v6 * 1103515245) + 12345) - ((v6 * 1103515245) + 12345) / 2147483648 * 2147483648) / 65536) / 100 * 100) v4.toInt64)
          · rw [if_pos h173] at k
            have k := ly_revb 2 (c' := (101, [(11, .int (v11 + (Int32.ofInt 1))), (6, .long (((v6 * 1103515245) + 12345) - ((v6 * 1103515245) + 12345) / 2147483648 * 2147483648)), (12, .int (x232 p v11 J)), (0, .ref (p 0)), (1, .int v1), (2, .int v2), (3, .int v3), (4, .int v4), (5, .int v5), (8, .int v8), (9, .int v9), (10, .int v10)], [], me_w (lw M L) J)) rfl k
            have k := nt_rn_w (a := [(11, .int (v11 + (Int32.ofInt 1))), (6, .long (((v6 * 1103515245) + 12345) - ((v6 * 1103515245) + 12345) / 2147483648 * 2147483648)), (12, .int (x232 p v11 J)), (0, .ref (p 0)), (1, .int v1), (2, .int v2), (3, .int v3), (4, .int v4), (5, .int v5), (8, .int v8), (9, .int v9), (10, .int v10)]) (b := [(0, .ref (p 0)), (1, .int v1), (2, .int v2), (3, .int v3), (4, .int v4), (5, .int v5), (6, .long (((v6 * 1103515245) + 12345) - ((v6 * 1103515245) + 12345) / 2147483648 * 2147483648)), (8, .int v8), (9, .int v9), (10, .int v10), (11, .int (v11 + (Int32.ofInt 1))), (12, .int (x232 p v11 J))]) ⟨rfl, rfl, rfl, rfl, rfl, rfl, rfl, rfl, rfl, rfl, rfl, rfl, trivial⟩ rfl k
            have k := ih (((v6 * 1103515245) + 12345) - ((v6 * 1103515245) + 12345) / 2147483648 * 2147483648) (v11 + (Int32.ofInt 1)) (x232 p v11 J) J (⟨hc.1, lx_dec h109 hc.2.1, xi_nn h109 hc.2.2⟩) k
            rw [x231_101, if_neg h109, if_pos h120, if_pos h137, if_pos h173]
            exact k
          · rw [if_neg h173] at k
            have k := ly_revb 3 (c' := (180, [(6, .long (((v6 * 1103515245) + 12345) - ((v6 * 1103515245) + 12345) / 2147483648 * 2147483648)), (12, .int (x232 p v11 J)), (0, .ref (p 0)), (1, .int v1), (2, .int v2), (3, .int v3), (4, .int v4), (5, .int v5), (8, .int v8), (9, .int v9), (10, .int v10), (11, .int v11)], [.int (Int32.ofInt 1), .int (x232 p v11 J), .ref (p 0)], me_w (lw M L) J)) rfl k
            obtain ⟨d1, o1, ed, kc, k⟩ := lz_c (g := 173) (q := 1) (vs := [.ref (p 0), .int (x232 p v11 J), .int (Int32.ofInt 1)]) (rest := []) rfl rfl (by decide) (Or.inr (Or.inl ⟨_, rfl, rfl⟩)) rfl k
            have e1 := xt173 (xs_lp hp) kc
            subst e1
            have k : nt_rn X _ 231 (183, [(6, .long (((v6 * 1103515245) + 12345) - ((v6 * 1103515245) + 12345) / 2147483648 * 2147483648)), (12, .int (x232 p v11 J)), (0, .ref (p 0)), (1, .int v1), (2, .int v2), (3, .int v3), (4, .int v4), (5, .int v5), (8, .int v8), (9, .int v9), (10, .int v10), (11, .int v11)], [.int (x173 p (x232 p v11 J) (Int32.ofInt 1) J)], me_w (lw M L) J) _ := k
            have k := ly_revb 2 (c' := (if (x173 p (x232 p v11 J) (Int32.ofInt 1) J) ≤ (Int32.ofInt 1) then 205 else 187, [(6, .long (((v6 * 1103515245) + 12345) - ((v6 * 1103515245) + 12345) / 2147483648 * 2147483648)), (12, .int (x232 p v11 J)), (0, .ref (p 0)), (1, .int v1), (2, .int v2), (3, .int v3), (4, .int v4), (5, .int v5), (8, .int v8), (9, .int v9), (10, .int v10), (11, .int v11)], [], me_w (lw M L) J)) rfl k
            by_cases h184 : (x173 p (x232 p v11 J) (Int32.ofInt 1) J) ≤ (Int32.ofInt 1)
            · rw [if_pos h184] at k
              have k := ly_revb 2 (c' := (101, [(11, .int (v11 + (Int32.ofInt 1))), (6, .long (((v6 * 1103515245) + 12345) - ((v6 * 1103515245) + 12345) / 2147483648 * 2147483648)), (12, .int (x232 p v11 J)), (0, .ref (p 0)), (1, .int v1), (2, .int v2), (3, .int v3), (4, .int v4), (5, .int v5), (8, .int v8), (9, .int v9), (10, .int v10)], [], me_w (lw M L) J)) rfl k
              have k := nt_rn_w (a := [(11, .int (v11 + (Int32.ofInt 1))), (6, .long (((v6 * 1103515245) + 12345) - ((v6 * 1103515245) + 12345) / 2147483648 * 2147483648)), (12, .int (x232 p v11 J)), (0, .ref (p 0)), (1, .int v1), (2, .int v2), (3, .int v3), (4, .int v4), (5, .int v5), (8, .int v8), (9, .int v9), (10, .int v10)]) (b := [(0, .ref (p 0)), (1, .int v1), (2, .int v2), (3, .int v3), (4, .int v4), (5, .int v5), (6, .long (((v6 * 1103515245) + 12345) - ((v6 * 1103515245) + 12345) / 2147483648 * 2147483648)), (8, .int v8), (9, .int v9), (10, .int v10), (11, .int (v11 + (Int32.ofInt 1))), (12, .int (x232 p v11 J))]) ⟨rfl, rfl, rfl, rfl, rfl, rfl, rfl, rfl, rfl, rfl, rfl, rfl, trivial⟩ rfl k
              have k := ih (((v6 * 1103515245) + 12345) - ((v6 * 1103515245) + 12345) / 2147483648 * 2147483648) (v11 + (Int32.ofInt 1)) (x232 p v11 J) J (⟨hc.1, lx_dec h109 hc.2.1, xi_nn h109 hc.2.2⟩) k
              rw [x231_101, if_neg h109, if_pos h120, if_pos h137, if_neg h173, if_pos h184]
              exact k
            · rw [if_neg h184] at k
              have k := ly_revb 1 (c' := (188, [(6, .long (((v6 * 1103515245) + 12345) - ((v6 * 1103515245) + 12345) / 2147483648 * 2147483648)), (12, .int (x232 p v11 J)), (0, .ref (p 0)), (1, .int v1), (2, .int v2), (3, .int v3), (4, .int v4), (5, .int v5), (8, .int v8), (9, .int v9), (10, .int v10), (11, .int v11)], [.ref (p 0)], me_w (lw M L) J)) rfl k
              have k := lz_get (a := (p 0)) (g := 1127) (M := me_w (lw M L) J) (v := .ref (p 4)) rfl (nt_gfR rfl (mw_RL (hp.1 (0, 27, 4) (by decide)))) k
              have k := ly_revb 8 (c' := (201, [(6, .long (((v6 * 1103515245) + 12345) - ((v6 * 1103515245) + 12345) / 2147483648 * 2147483648)), (12, .int (x232 p v11 J)), (0, .ref (p 0)), (1, .int v1), (2, .int v2), (3, .int v3), (4, .int v4), (5, .int v5), (8, .int v8), (9, .int v9), (10, .int v10), (11, .int v11)], [.int (((Int32.ofInt 52) + ((Int32.ofInt 5) * (x232 p v11 J))) + (Int32.ofInt 1)), .ref (p 4), .int (((Int32.ofInt 52) + ((Int32.ofInt 5) * (x232 p v11 J))) + (Int32.ofInt 1)), .ref (p 4)], me_w (lw M L) J)) rfl k
              have k := mx_iald (v := J (p 4) ((((Int32.ofInt 52) + ((Int32.ofInt 5) * (x232 p v11 J))) + (Int32.ofInt 1)).toNatClampNeg)) rfl (hp.2.2.1 4 (by omega)) (rfl) k
              have k := ly_revb 2 (c' := (204, [(6, .long (((v6 * 1103515245) + 12345) - ((v6 * 1103515245) + 12345) / 2147483648 * 2147483648)), (12, .int (x232 p v11 J)), (0, .ref (p 0)), (1, .int v1), (2, .int v2), (3, .int v3), (4, .int v4), (5, .int v5), (8, .int v8), (9, .int v9), (10, .int v10), (11, .int v11)], [.int ((J (p 4) ((((Int32.ofInt 52) + ((Int32.ofInt 5) * (x232 p v11 J))) + (Int32.ofInt 1)).toNatClampNeg)) - (Int32.ofInt 1)), .int (((Int32.ofInt 52) + ((Int32.ofInt 5) * (x232 p v11 J))) + (Int32.ofInt 1)), .ref (p 4)], me_w (lw M L) J)) rfl k
              have k := mx_iast (q := (((Int32.ofInt 52) + ((Int32.ofInt 5) * (x232 p v11 J))) + (Int32.ofInt 1)).toNatClampNeg) rfl rfl k
              have k : nt_rn X _ 231 (205, [(6, .long (((v6 * 1103515245) + 12345) - ((v6 * 1103515245) + 12345) / 2147483648 * 2147483648)), (12, .int (x232 p v11 J)), (0, .ref (p 0)), (1, .int v1), (2, .int v2), (3, .int v3), (4, .int v4), (5, .int v5), (8, .int v8), (9, .int v9), (10, .int v10), (11, .int v11)], [], me_w (lw M L) (nt_u J (p 4) ((((Int32.ofInt 52) + ((Int32.ofInt 5) * (x232 p v11 J))) + (Int32.ofInt 1)).toNatClampNeg) ((J (p 4) ((((Int32.ofInt 52) + ((Int32.ofInt 5) * (x232 p v11 J))) + (Int32.ofInt 1)).toNatClampNeg)) - (Int32.ofInt 1)))) _ := k
              have k := ly_revb 2 (c' := (101, [(11, .int (v11 + (Int32.ofInt 1))), (6, .long (((v6 * 1103515245) + 12345) - ((v6 * 1103515245) + 12345) / 2147483648 * 2147483648)), (12, .int (x232 p v11 J)), (0, .ref (p 0)), (1, .int v1), (2, .int v2), (3, .int v3), (4, .int v4), (5, .int v5), (8, .int v8), (9, .int v9), (10, .int v10)], [], me_w (lw M L) (nt_u J (p 4) ((((Int32.ofInt 52) + ((Int32.ofInt 5) * (x232 p v11 J))) + (Int32.ofInt 1)).toNatClampNeg) ((J (p 4) ((((Int32.ofInt 52) + ((Int32.ofInt 5) * (x232 p v11 J))) + (Int32.ofInt 1)).toNatClampNeg)) - (Int32.ofInt 1))))) rfl k
              have k := nt_rn_w (a := [(11, .int (v11 + (Int32.ofInt 1))), (6, .long (((v6 * 1103515245) + 12345) - ((v6 * 1103515245) + 12345) / 2147483648 * 2147483648)), (12, .int (x232 p v11 J)), (0, .ref (p 0)), (1, .int v1), (2, .int v2), (3, .int v3), (4, .int v4), (5, .int v5), (8, .int v8), (9, .int v9), (10, .int v10)]) (b := [(0, .ref (p 0)), (1, .int v1), (2, .int v2), (3, .int v3), (4, .int v4), (5, .int v5), (6, .long (((v6 * 1103515245) + 12345) - ((v6 * 1103515245) + 12345) / 2147483648 * 2147483648)), (8, .int v8), (9, .int v9), (10, .int v10), (11, .int (v11 + (Int32.ofInt 1))), (12, .int (x232 p v11 J))]) ⟨rfl, rfl, rfl, rfl, rfl, rfl, rfl, rfl, rfl, rfl, rfl, rfl, trivial⟩ rfl k
              have k := ih (((v6 * 1103515245) + 12345) - ((v6 * 1103515245) + 12345) / 2147483648 * 2147483648) (v11 + (Int32.ofInt 1)) (x232 p v11 J) (nt_u J (p 4) ((((Int32.ofInt 52) + ((Int32.ofInt 5) * (x232 p v11 J))) + (Int32.ofInt 1)).toNatClampNeg) ((J (p 4) ((((Int32.ofInt 52) + ((Int32.ofInt 5) * (x232 p v11 J))) + (Int32.ofInt 1)).toNatClampNeg)) - (Int32.ofInt 1))) (⟨(xw_dr hc.1 h137).1, by rw [(xw_dr hc.1 h137).2]; exact lx_dec h109 hc.2.1, xi_nn h109 hc.2.2⟩) k
              rw [x231_101, if_neg h109, if_pos h120, if_pos h137, if_neg h173, if_neg h184]
              exact k
        · rw [if_neg h137] at k
          have k := ly_revb 3 (c' := (101, [(11, .int (v11 + (Int32.ofInt 1))), (12, .int (x232 p v11 J)), (0, .ref (p 0)), (1, .int v1), (2, .int v2), (3, .int v3), (4, .int v4), (5, .int v5), (6, .long v6), (8, .int v8), (9, .int v9), (10, .int v10)], [], me_w (lw M L) J)) rfl k
          have k := nt_rn_w (a := [(11, .int (v11 + (Int32.ofInt 1))), (12, .int (x232 p v11 J)), (0, .ref (p 0)), (1, .int v1), (2, .int v2), (3, .int v3), (4, .int v4), (5, .int v5), (6, .long v6), (8, .int v8), (9, .int v9), (10, .int v10)]) (b := [(0, .ref (p 0)), (1, .int v1), (2, .int v2), (3, .int v3), (4, .int v4), (5, .int v5), (6, .long v6), (8, .int v8), (9, .int v9), (10, .int v10), (11, .int (v11 + (Int32.ofInt 1))), (12, .int (x232 p v11 J))]) ⟨rfl, rfl, rfl, rfl, rfl, rfl, rfl, rfl, rfl, rfl, rfl, rfl, trivial⟩ rfl k
          have k := ih v6 (v11 + (Int32.ofInt 1)) (x232 p v11 J) J (⟨hc.1, lx_dec h109 hc.2.1, xi_nn h109 hc.2.2⟩) k
          rw [x231_101, if_neg h109, if_pos h120, if_neg h137]
          exact k
      · rw [if_neg h120] at k
        have k := ly_revb 4 (c' := (if 0 ≤ (Int32.ofInt (-1)) then 143 else 140, [(12, .int (Int32.ofInt (-1))), (0, .ref (p 0)), (1, .int v1), (2, .int v2), (3, .int v3), (4, .int v4), (5, .int v5), (6, .long v6), (8, .int v8), (9, .int v9), (10, .int v10), (11, .int v11)], [], me_w (lw M L) J)) rfl k
        rw [if_neg (show ¬ (0 ≤ (Int32.ofInt (-1))) from by decide)] at k
        have k := ly_revb 3 (c' := (101, [(11, .int (v11 + (Int32.ofInt 1))), (12, .int (Int32.ofInt (-1))), (0, .ref (p 0)), (1, .int v1), (2, .int v2), (3, .int v3), (4, .int v4), (5, .int v5), (6, .long v6), (8, .int v8), (9, .int v9), (10, .int v10)], [], me_w (lw M L) J)) rfl k
        have k := nt_rn_w (a := [(11, .int (v11 + (Int32.ofInt 1))), (12, .int (Int32.ofInt (-1))), (0, .ref (p 0)), (1, .int v1), (2, .int v2), (3, .int v3), (4, .int v4), (5, .int v5), (6, .long v6), (8, .int v8), (9, .int v9), (10, .int v10)]) (b := [(0, .ref (p 0)), (1, .int v1), (2, .int v2), (3, .int v3), (4, .int v4), (5, .int v5), (6, .long v6), (8, .int v8), (9, .int v9), (10, .int v10), (11, .int (v11 + (Int32.ofInt 1))), (12, .int (Int32.ofInt (-1)))]) ⟨rfl, rfl, rfl, rfl, rfl, rfl, rfl, rfl, rfl, rfl, rfl, rfl, trivial⟩ rfl k
        have k := ih v6 (v11 + (Int32.ofInt 1)) (Int32.ofInt (-1)) J (⟨hc.1, lx_dec h109 hc.2.1, xi_nn h109 hc.2.2⟩) k
        rw [x231_101, if_neg h109, if_neg h120]
        exact k
theorem x231_101_rule {p : Nat → Nat} {v1 : Int32} {v2 : Int32} {v3 : Int32} {v4 : Int32} {v5 : Int32} {v8 : Int32} {v9 : Int32} {v10 : Int32} {L : Nat → Nat → Int64} {I : Nat → Int64 → Int32 → (Nat → Nat → Int32) → Prop} {Q : Int64 × (Nat → Nat → Int32) → Prop} (h0 : ∀ (v6 : Int64) (v11 : Int32) (J : Nat → Nat → Int32), I 0 v6 v11 J → Q (v6, J)) (h1 : ∀ (c : Nat) (v6 : Int64) (v11 : Int32) (J : Nat → Nat → Int32), I (c + 1) v6 v11 J →
    if (J (p 4) 1) ≤ v11 then (Q (v6, J))
    else if (x169 p v11 (Int32.ofInt 4) J) = (Int32.ofInt 1) then if 0 ≤ (x232 p v11 J) then if 0 ≤ (lg_cmp (((((v6 * 1103515245) + 12345) - ((v6 * 1103515245) + 12345) / 2147483648 * 2147483648) / 65536) - ((((v6 * 1103515245) + 12345) - ((v6 * 1103515245) + 12345) / 2147483648 * 2147483648) / 65536) / 100 * 100) v4.toInt64) then (I c (((v6 * 1103515245) + 12345) - ((v6 * 1103515245) + 12345) / 2147483648 * 2147483648) (v11 + (Int32.ofInt 1)) J)
          else if (x173 p (x232 p v11 J) (Int32.ofInt 1) J) ≤ (Int32.ofInt 1) then (I c (((v6 * 1103515245) + 12345) - ((v6 * 1103515245) + 12345) / 2147483648 * 2147483648) (v11 + (Int32.ofInt 1)) J)
            else (I c (((v6 * 1103515245) + 12345) - ((v6 * 1103515245) + 12345) / 2147483648 * 2147483648) (v11 + (Int32.ofInt 1)) (nt_u J (p 4) ((((Int32.ofInt 52) + ((Int32.ofInt 5) * (x232 p v11 J))) + (Int32.ofInt 1)).toNatClampNeg) ((J (p 4) ((((Int32.ofInt 52) + ((Int32.ofInt 5) * (x232 p v11 J))) + (Int32.ofInt 1)).toNatClampNeg)) - (Int32.ofInt 1))))
        else (I c v6 (v11 + (Int32.ofInt 1)) J)
      else (I c v6 (v11 + (Int32.ofInt 1)) J)) : ∀ (c : Nat) (v6 : Int64) (v11 : Int32) (J : Nat → Nat → Int32), I c v6 v11 J → Q (x231_101 p v1 v2 v3 v4 v5 v8 v9 v10 L c v6 v11 J) := by
  intro c
  induction c with
  | zero =>
    intro v6 v11 J hi
    rw [x231_101]
    exact h0 v6 v11 J hi
  | succ c ih =>
    intro v6 v11 J hi
    have hi := h1 c v6 v11 J hi
    rw [x231_101]
    by_cases h : (J (p 4) 1) ≤ v11
    · rw [if_pos h] at hi ⊢
      exact hi
    · rw [if_neg h] at hi ⊢
      by_cases h : (x169 p v11 (Int32.ofInt 4) J) = (Int32.ofInt 1)
      · rw [if_pos h] at hi ⊢
        by_cases h : 0 ≤ (x232 p v11 J)
        · rw [if_pos h] at hi ⊢
          by_cases h : 0 ≤ (lg_cmp (((((v6 * 1103515245) + 12345) - ((v6 * 1103515245) + 12345) / 2147483648 * 2147483648) / 65536) - ((((v6 * 1103515245) + 12345) - ((v6 * 1103515245) + 12345) / 2147483648 * 2147483648) / 65536) / 100 * 100) v4.toInt64)
          · rw [if_pos h] at hi ⊢
            exact ih _ _ _ hi
          · rw [if_neg h] at hi ⊢
            by_cases h : (x173 p (x232 p v11 J) (Int32.ofInt 1) J) ≤ (Int32.ofInt 1)
            · rw [if_pos h] at hi ⊢
              exact ih _ _ _ hi
            · rw [if_neg h] at hi ⊢
              exact ih _ _ _ hi
        · rw [if_neg h] at hi ⊢
          exact ih _ _ _ hi
      · rw [if_neg h] at hi ⊢
        exact ih _ _ _ hi
theorem xw_101 {p : Nat → Nat} {v1 v2 v3 v4 v5 v8 v9 v10 : Int32} {L : Nat → Nat → Int64} {c : Nat} {v6 : Int64} {v11 : Int32} {J : Nat → Nat → Int32} (hW : xr_W (J (p 4))) (h0 : 0 ≤ v11.toInt) : xr_W ((x231_101 p v1 v2 v3 v4 v5 v8 v9 v10 L c v6 v11 J).2 (p 4)) := by
  refine x231_101_rule (I := fun _ _ v11 J1 => xr_W (J1 (p 4)) ∧ 0 ≤ v11.toInt) (Q := fun r => xr_W (r.2 (p 4))) ?_ ?_ _ _ _ _ ⟨hW, h0⟩
  · intro v6 v11 J1 h
    exact h.1
  · intro c v6 v11 J1 h
    by_cases h1 : J1 (p 4) 1 ≤ v11
    · rw [if_pos h1]
      exact h.1
    · rw [if_neg h1]
      split
      · split
        · rename_i h137
          split
          · exact ⟨h.1, xi_nn h1 h.2⟩
          · split
            · exact ⟨h.1, xi_nn h1 h.2⟩
            · exact ⟨(xw_dr h.1 h137).1, xi_nn h1 h.2⟩
        · exact ⟨h.1, xi_nn h1 h.2⟩
      · exact ⟨h.1, xi_nn h1 h.2⟩
theorem x231_101_frJ {p : Nat → Nat} {v1 : Int32} {v2 : Int32} {v3 : Int32} {v4 : Int32} {v5 : Int32} {v8 : Int32} {v9 : Int32} {v10 : Int32} {L : Nat → Nat → Int64} {b : Nat} : ∀ (c : Nat) (v6 : Int64) (v11 : Int32) (J : Nat → Nat → Int32), b ≠ p 4 → (x231_101 p v1 v2 v3 v4 v5 v8 v9 v10 L c v6 v11 J).2 b = J b := by
  intro c
  induction c with
  | zero =>
    intro v6 v11 J n0
    rw [x231_101]
    all_goals first | (dsimp only; exact (show J b = J b from rfl)) | exact (show J b = J b from rfl)
  | succ c ih =>
    intro v6 v11 J n0
    rw [x231_101]
    by_cases h : (J (p 4) 1) ≤ v11
    · rw [if_pos h]
      all_goals first | (dsimp only; exact (show J b = J b from rfl)) | exact (show J b = J b from rfl)
    · rw [if_neg h]
      by_cases h : (x169 p v11 (Int32.ofInt 4) J) = (Int32.ofInt 1)
      · rw [if_pos h]
        by_cases h : 0 ≤ (x232 p v11 J)
        · rw [if_pos h]
          by_cases h : 0 ≤ (lg_cmp (((((v6 * 1103515245) + 12345) - ((v6 * 1103515245) + 12345) / 2147483648 * 2147483648) / 65536) - ((((v6 * 1103515245) + 12345) - ((v6 * 1103515245) + 12345) / 2147483648 * 2147483648) / 65536) / 100 * 100) v4.toInt64)
          · rw [if_pos h]
            exact (ih _ _ _ n0).trans (rfl)
          · rw [if_neg h]
            by_cases h : (x173 p (x232 p v11 J) (Int32.ofInt 1) J) ≤ (Int32.ofInt 1)
            · rw [if_pos h]
              exact (ih _ _ _ n0).trans (rfl)
            · rw [if_neg h]
              exact (ih _ _ _ n0).trans (mu_o n0)
        · rw [if_neg h]
          exact (ih _ _ _ n0).trans (rfl)
      · rw [if_neg h]
        exact (ih _ _ _ n0).trans (rfl)
def x231_87 (p : Nat → Nat) (v1 : Int32) (v2 : Int32) (v3 : Int32) (v4 : Int32) (v5 : Int32) (v8 : Int32) (v9 : Int32) : Nat → Int64 → Int32 → (Nat → Nat → Int32) → (Nat → Nat → Int64) → Int64 × (Nat → Nat → Int32) × (Nat → Nat → Int64)
  | 0, v6, v10, J, L => (v6, J, L)
  | c + 1, v6, v10, J, L => if v3 ≤ v10 then (v6, J, L)
    else (x231_87 p v1 v2 v3 v4 v5 v8 v9 c ((x231_101 p v1 v2 v3 v4 v5 v8 v9 v10 ((x190 p v1 J L).2) ((((x190 p v1 J L).1) (p 4) 1).toNatClampNeg) v6 (Int32.ofInt 0) ((x190 p v1 J L).1)).1) (v10 + (Int32.ofInt 1)) ((x231_101 p v1 v2 v3 v4 v5 v8 v9 v10 ((x190 p v1 J L).2) ((((x190 p v1 J L).1) (p 4) 1).toNatClampNeg) v6 (Int32.ofInt 0) ((x190 p v1 J L).1)).2) ((x190 p v1 J L).2))
theorem xt231_87 {X : nt_X} {d : Nat} {M : nt_M} {o : Option Value × nt_M} {p : Nat → Nat} {v1 : Int32} {v2 : Int32} {v3 : Int32} {v4 : Int32} {v5 : Int32} {v8 : Int32} {v9 : Int32} (hp : xs_P M p) : ∀ (c : Nat) (v6 : Int64) (v10 : Int32) (v11 : Int32) (v12 : Int32) (J : Nat → Nat → Int32) (L : Nat → Nat → Int64), (xr_W (J (p 4)) ∧ v3.toInt - v10.toInt ≤ c) → nt_rn X d 231 (87, [(0, .ref (p 0)), (1, .int v1), (2, .int v2), (3, .int v3), (4, .int v4), (5, .int v5), (6, .long v6), (8, .int v8), (9, .int v9), (10, .int v10), (11, .int v11), (12, .int v12)], [], me_w (lw M L) J) o → ∃ (w10 : Int32) (w11 : Int32) (w12 : Int32), nt_rn X d 231 (217, [(0, .ref (p 0)), (1, .int v1), (2, .int v2), (3, .int v3), (4, .int v4), (5, .int v5), (6, .long ((x231_87 p v1 v2 v3 v4 v5 v8 v9 c v6 v10 J L).1)), (8, .int v8), (9, .int v9), (10, .int w10), (11, .int w11), (12, .int w12)], [], me_w (lw M ((x231_87 p v1 v2 v3 v4 v5 v8 v9 c v6 v10 J L).2.2)) ((x231_87 p v1 v2 v3 v4 v5 v8 v9 c v6 v10 J L).2.1)) o := by
  intro c
  induction c with
  | zero =>
    intro v6 v10 v11 v12 J L hc k
    have k := ly_revb 3 (c' := (if v3 ≤ v10 then 217 else 93, [(0, .ref (p 0)), (1, .int v1), (2, .int v2), (3, .int v3), (4, .int v4), (5, .int v5), (6, .long v6), (8, .int v8), (9, .int v9), (10, .int v10), (11, .int v11), (12, .int v12)], [], me_w (lw M L) J)) rfl k
    have h90 : v3 ≤ v10 := lx_end hc.2
    rw [if_pos h90] at k
    have k := nt_rn_w (a := [(0, .ref (p 0)), (1, .int v1), (2, .int v2), (3, .int v3), (4, .int v4), (5, .int v5), (6, .long v6), (8, .int v8), (9, .int v9), (10, .int v10), (11, .int v11), (12, .int v12)]) (b := [(0, .ref (p 0)), (1, .int v1), (2, .int v2), (3, .int v3), (4, .int v4), (5, .int v5), (6, .long v6), (8, .int v8), (9, .int v9), (10, .int v10), (11, .int v11), (12, .int v12)]) ⟨rfl, rfl, rfl, rfl, rfl, rfl, rfl, rfl, rfl, rfl, rfl, rfl, trivial⟩ rfl k
    rw [x231_87]
    exact ⟨_, _, _, k⟩
  | succ c ih =>
    intro v6 v10 v11 v12 J L hc k
    have k := ly_revb 3 (c' := (if v3 ≤ v10 then 217 else 93, [(0, .ref (p 0)), (1, .int v1), (2, .int v2), (3, .int v3), (4, .int v4), (5, .int v5), (6, .long v6), (8, .int v8), (9, .int v9), (10, .int v10), (11, .int v11), (12, .int v12)], [], me_w (lw M L) J)) rfl k
    by_cases h90 : v3 ≤ v10
    · rw [if_pos h90] at k
      have k := nt_rn_w (a := [(0, .ref (p 0)), (1, .int v1), (2, .int v2), (3, .int v3), (4, .int v4), (5, .int v5), (6, .long v6), (8, .int v8), (9, .int v9), (10, .int v10), (11, .int v11), (12, .int v12)]) (b := [(0, .ref (p 0)), (1, .int v1), (2, .int v2), (3, .int v3), (4, .int v4), (5, .int v5), (6, .long v6), (8, .int v8), (9, .int v9), (10, .int v10), (11, .int v11), (12, .int v12)]) ⟨rfl, rfl, rfl, rfl, rfl, rfl, rfl, rfl, rfl, rfl, rfl, rfl, trivial⟩ rfl k
      rw [x231_87, if_pos h90]
      exact ⟨_, _, _, k⟩
    · rw [if_neg h90] at k
      have k := ly_revb 2 (c' := (95, [(0, .ref (p 0)), (1, .int v1), (2, .int v2), (3, .int v3), (4, .int v4), (5, .int v5), (6, .long v6), (8, .int v8), (9, .int v9), (10, .int v10), (11, .int v11), (12, .int v12)], [.int v1, .ref (p 0)], me_w (lw M L) J)) rfl k
      obtain ⟨d1, o1, ed, kc, k⟩ := lz_c (g := 190) (q := 1) (vs := [.ref (p 0), .int v1]) (rest := []) rfl rfl (by decide) (Or.inr (Or.inl ⟨_, rfl, rfl⟩)) rfl k
      have e1 := xt190 hp hc.1 kc
      subst e1
      have k : nt_rn X _ 231 (98, [(0, .ref (p 0)), (1, .int v1), (2, .int v2), (3, .int v3), (4, .int v4), (5, .int v5), (6, .long v6), (8, .int v8), (9, .int v9), (10, .int v10), (11, .int v11), (12, .int v12)], [], me_w (lw M ((x190 p v1 J L).2)) ((x190 p v1 J L).1)) _ := k
      have k := ly_revb 2 (c' := (101, [(11, .int (Int32.ofInt 0)), (0, .ref (p 0)), (1, .int v1), (2, .int v2), (3, .int v3), (4, .int v4), (5, .int v5), (6, .long v6), (8, .int v8), (9, .int v9), (10, .int v10), (12, .int v12)], [], me_w (lw M ((x190 p v1 J L).2)) ((x190 p v1 J L).1))) rfl k
      have k := nt_rn_w (a := [(11, .int (Int32.ofInt 0)), (0, .ref (p 0)), (1, .int v1), (2, .int v2), (3, .int v3), (4, .int v4), (5, .int v5), (6, .long v6), (8, .int v8), (9, .int v9), (10, .int v10), (12, .int v12)]) (b := [(0, .ref (p 0)), (1, .int v1), (2, .int v2), (3, .int v3), (4, .int v4), (5, .int v5), (6, .long v6), (8, .int v8), (9, .int v9), (10, .int v10), (11, .int (Int32.ofInt 0)), (12, .int v12)]) ⟨rfl, rfl, rfl, rfl, rfl, rfl, rfl, rfl, rfl, rfl, rfl, rfl, trivial⟩ rfl k
      have k := xt231_101 hp  ((((x190 p v1 J L).1) (p 4) 1).toNatClampNeg) v6 (Int32.ofInt 0) v12 ((x190 p v1 J L).1) (⟨xw_190 (hp.2.1 4 0 (by omega) (by omega) (by decide)) hc.1, lx_beg (by decide), by decide⟩) k
      obtain ⟨w11, w12, k⟩ := k
      have k : nt_rn X _ 231 (211, [(0, .ref (p 0)), (1, .int v1), (2, .int v2), (3, .int v3), (4, .int v4), (5, .int v5), (6, .long ((x231_101 p v1 v2 v3 v4 v5 v8 v9 v10 ((x190 p v1 J L).2) ((((x190 p v1 J L).1) (p 4) 1).toNatClampNeg) v6 (Int32.ofInt 0) ((x190 p v1 J L).1)).1)), (8, .int v8), (9, .int v9), (10, .int v10), (11, .int w11), (12, .int w12)], [], me_w (lw M ((x190 p v1 J L).2)) ((x231_101 p v1 v2 v3 v4 v5 v8 v9 v10 ((x190 p v1 J L).2) ((((x190 p v1 J L).1) (p 4) 1).toNatClampNeg) v6 (Int32.ofInt 0) ((x190 p v1 J L).1)).2)) _ := k
      have k := ly_revb 2 (c' := (87, [(10, .int (v10 + (Int32.ofInt 1))), (0, .ref (p 0)), (1, .int v1), (2, .int v2), (3, .int v3), (4, .int v4), (5, .int v5), (6, .long ((x231_101 p v1 v2 v3 v4 v5 v8 v9 v10 ((x190 p v1 J L).2) ((((x190 p v1 J L).1) (p 4) 1).toNatClampNeg) v6 (Int32.ofInt 0) ((x190 p v1 J L).1)).1)), (8, .int v8), (9, .int v9), (11, .int w11), (12, .int w12)], [], me_w (lw M ((x190 p v1 J L).2)) ((x231_101 p v1 v2 v3 v4 v5 v8 v9 v10 ((x190 p v1 J L).2) ((((x190 p v1 J L).1) (p 4) 1).toNatClampNeg) v6 (Int32.ofInt 0) ((x190 p v1 J L).1)).2))) rfl k
      have k := nt_rn_w (a := [(10, .int (v10 + (Int32.ofInt 1))), (0, .ref (p 0)), (1, .int v1), (2, .int v2), (3, .int v3), (4, .int v4), (5, .int v5), (6, .long ((x231_101 p v1 v2 v3 v4 v5 v8 v9 v10 ((x190 p v1 J L).2) ((((x190 p v1 J L).1) (p 4) 1).toNatClampNeg) v6 (Int32.ofInt 0) ((x190 p v1 J L).1)).1)), (8, .int v8), (9, .int v9), (11, .int w11), (12, .int w12)]) (b := [(0, .ref (p 0)), (1, .int v1), (2, .int v2), (3, .int v3), (4, .int v4), (5, .int v5), (6, .long ((x231_101 p v1 v2 v3 v4 v5 v8 v9 v10 ((x190 p v1 J L).2) ((((x190 p v1 J L).1) (p 4) 1).toNatClampNeg) v6 (Int32.ofInt 0) ((x190 p v1 J L).1)).1)), (8, .int v8), (9, .int v9), (10, .int (v10 + (Int32.ofInt 1))), (11, .int w11), (12, .int w12)]) ⟨rfl, rfl, rfl, rfl, rfl, rfl, rfl, rfl, rfl, rfl, rfl, rfl, trivial⟩ rfl k
      have k := ih ((x231_101 p v1 v2 v3 v4 v5 v8 v9 v10 ((x190 p v1 J L).2) ((((x190 p v1 J L).1) (p 4) 1).toNatClampNeg) v6 (Int32.ofInt 0) ((x190 p v1 J L).1)).1) (v10 + (Int32.ofInt 1)) w11 w12 ((x231_101 p v1 v2 v3 v4 v5 v8 v9 v10 ((x190 p v1 J L).2) ((((x190 p v1 J L).1) (p 4) 1).toNatClampNeg) v6 (Int32.ofInt 0) ((x190 p v1 J L).1)).2) ((x190 p v1 J L).2) (⟨xw_101 (xw_190 (hp.2.1 4 0 (by omega) (by omega) (by decide)) hc.1) (by decide), lx_dec h90 hc.2⟩) k
      rw [x231_87, if_neg h90]
      exact k
theorem x231_87_frJ {p : Nat → Nat} {v1 : Int32} {v2 : Int32} {v3 : Int32} {v4 : Int32} {v5 : Int32} {v8 : Int32} {v9 : Int32} {b : Nat} : ∀ (c : Nat) (v6 : Int64) (v10 : Int32) (J : Nat → Nat → Int32) (L : Nat → Nat → Int64), b ≠ p 0 → b ≠ p 4 → (x231_87 p v1 v2 v3 v4 v5 v8 v9 c v6 v10 J L).2.1 b = J b := by
  intro c
  induction c with
  | zero =>
    intro v6 v10 J L n0 n1
    rw [x231_87]
    all_goals first | (dsimp only; exact (show J b = J b from rfl)) | exact (show J b = J b from rfl)
  | succ c ih =>
    intro v6 v10 J L n0 n1
    rw [x231_87]
    by_cases h : v3 ≤ v10
    · rw [if_pos h]
      all_goals first | (dsimp only; exact (show J b = J b from rfl)) | exact (show J b = J b from rfl)
    · rw [if_neg h]
      exact (ih _ _ _ _ n0 n1).trans ((x231_101_frJ _ _ _ _ n1).trans (x190_frJ  n0 n1))
def x231_78 (p : Nat → Nat) (v1 : Int32) (v2 : Int32) (v3 : Int32) (v4 : Int32) (v5 : Int32) : Nat → Int64 → Int32 → Int32 → (Nat → Nat → Int32) → (Nat → Nat → Int64) → Int32 × (Nat → Nat → Int32) × (Nat → Nat → Int64)
  | 0, v6, v8, v9, J, L => (v8, J, L)
  | c + 1, v6, v8, v9, J, L => if v2 ≤ v9 then (v8, J, L)
    else if v5 = 0 then (x231_78 p v1 v2 v3 v4 v5 c ((x231_87 p v1 v2 v3 v4 v5 v8 v9 v3.toNatClampNeg v6 (Int32.ofInt 0) J L).1) (v8 + ((((x231_87 p v1 v2 v3 v4 v5 v8 v9 v3.toNatClampNeg v6 (Int32.ofInt 0) J L).2.1) (p 4) 7) - (J (p 7) 7))) (v9 + (Int32.ofInt 1)) (x229 p ((x231_87 p v1 v2 v3 v4 v5 v8 v9 v3.toNatClampNeg v6 (Int32.ofInt 0) J L).2.1)) ((x231_87 p v1 v2 v3 v4 v5 v8 v9 v3.toNatClampNeg v6 (Int32.ofInt 0) J L).2.2))
      else (x231_78 p v1 v2 v3 v4 v5 c ((x231_87 p v1 v2 v3 v4 v5 v8 v9 v3.toNatClampNeg v6 (Int32.ofInt 0) J L).1) (v8 + (x214 (x228 p ((x231_87 p v1 v2 v3 v4 v5 v8 v9 v3.toNatClampNeg v6 (Int32.ofInt 0) J L).2.1)))) (v9 + (Int32.ofInt 1)) (x229 p ((x231_87 p v1 v2 v3 v4 v5 v8 v9 v3.toNatClampNeg v6 (Int32.ofInt 0) J L).2.1)) ((x231_87 p v1 v2 v3 v4 v5 v8 v9 v3.toNatClampNeg v6 (Int32.ofInt 0) J L).2.2))
theorem xt231_78 {X : nt_X} {d : Nat} {M : nt_M} {o : Option Value × nt_M} {p : Nat → Nat} {v1 : Int32} {v2 : Int32} {v3 : Int32} {v4 : Int32} {v5 : Int32} (hp : xs_P M p) : ∀ (c : Nat) (v6 : Int64) (v8 : Int32) (v9 : Int32) (v10 : Int32) (v11 : Int32) (v12 : Int32) (J : Nat → Nat → Int32) (L : Nat → Nat → Int64), (xr_W (J (p 7)) ∧ xr_W (J (p 4)) ∧ v2.toInt - v9.toInt ≤ c) → nt_rn X d 231 (78, [(0, .ref (p 0)), (1, .int v1), (2, .int v2), (3, .int v3), (4, .int v4), (5, .int v5), (6, .long v6), (8, .int v8), (9, .int v9), (10, .int v10), (11, .int v11), (12, .int v12)], [], me_w (lw M L) J) o → o = (some (.int ((x231_78 p v1 v2 v3 v4 v5 c v6 v8 v9 J L).1)), me_w (lw M ((x231_78 p v1 v2 v3 v4 v5 c v6 v8 v9 J L).2.2)) ((x231_78 p v1 v2 v3 v4 v5 c v6 v8 v9 J L).2.1)) := by
  intro c
  induction c with
  | zero =>
    intro v6 v8 v9 v10 v11 v12 J L hc k
    have k := ly_revb 3 (c' := (if v2 ≤ v9 then 262 else 84, [(0, .ref (p 0)), (1, .int v1), (2, .int v2), (3, .int v3), (4, .int v4), (5, .int v5), (6, .long v6), (8, .int v8), (9, .int v9), (10, .int v10), (11, .int v11), (12, .int v12)], [], me_w (lw M L) J)) rfl k
    have h81 : v2 ≤ v9 := lx_end hc.2.2
    rw [if_pos h81] at k
    have k := ly_revb 1 (c' := (264, [(0, .ref (p 0)), (1, .int v1), (2, .int v2), (3, .int v3), (4, .int v4), (5, .int v5), (6, .long v6), (8, .int v8), (9, .int v9), (10, .int v10), (11, .int v11), (12, .int v12)], [.int v8], me_w (lw M L) J)) rfl k
    have k := lz_ri rfl (by decide) k
    rw [k, x231_78]
  | succ c ih =>
    intro v6 v8 v9 v10 v11 v12 J L hc k
    have k := ly_revb 3 (c' := (if v2 ≤ v9 then 262 else 84, [(0, .ref (p 0)), (1, .int v1), (2, .int v2), (3, .int v3), (4, .int v4), (5, .int v5), (6, .long v6), (8, .int v8), (9, .int v9), (10, .int v10), (11, .int v11), (12, .int v12)], [], me_w (lw M L) J)) rfl k
    by_cases h81 : v2 ≤ v9
    · rw [if_pos h81] at k
      have k := ly_revb 1 (c' := (264, [(0, .ref (p 0)), (1, .int v1), (2, .int v2), (3, .int v3), (4, .int v4), (5, .int v5), (6, .long v6), (8, .int v8), (9, .int v9), (10, .int v10), (11, .int v11), (12, .int v12)], [.int v8], me_w (lw M L) J)) rfl k
      have k := lz_ri rfl (by decide) k
      rw [k, x231_78, if_pos h81]
    · rw [if_neg h81] at k
      have k := ly_revb 2 (c' := (87, [(10, .int (Int32.ofInt 0)), (0, .ref (p 0)), (1, .int v1), (2, .int v2), (3, .int v3), (4, .int v4), (5, .int v5), (6, .long v6), (8, .int v8), (9, .int v9), (11, .int v11), (12, .int v12)], [], me_w (lw M L) J)) rfl k
      have k := nt_rn_w (a := [(10, .int (Int32.ofInt 0)), (0, .ref (p 0)), (1, .int v1), (2, .int v2), (3, .int v3), (4, .int v4), (5, .int v5), (6, .long v6), (8, .int v8), (9, .int v9), (11, .int v11), (12, .int v12)]) (b := [(0, .ref (p 0)), (1, .int v1), (2, .int v2), (3, .int v3), (4, .int v4), (5, .int v5), (6, .long v6), (8, .int v8), (9, .int v9), (10, .int (Int32.ofInt 0)), (11, .int v11), (12, .int v12)]) ⟨rfl, rfl, rfl, rfl, rfl, rfl, rfl, rfl, rfl, rfl, rfl, rfl, trivial⟩ rfl k
      have k := xt231_87 hp  v3.toNatClampNeg v6 (Int32.ofInt 0) v11 v12 J L (⟨hc.2.1, lx_beg (by decide)⟩) k
      obtain ⟨w10, w11, w12, k⟩ := k
      have k : nt_rn X _ 231 (217, [(0, .ref (p 0)), (1, .int v1), (2, .int v2), (3, .int v3), (4, .int v4), (5, .int v5), (6, .long ((x231_87 p v1 v2 v3 v4 v5 v8 v9 v3.toNatClampNeg v6 (Int32.ofInt 0) J L).1)), (8, .int v8), (9, .int v9), (10, .int w10), (11, .int w11), (12, .int w12)], [], me_w (lw M ((x231_87 p v1 v2 v3 v4 v5 v8 v9 v3.toNatClampNeg v6 (Int32.ofInt 0) J L).2.2)) ((x231_87 p v1 v2 v3 v4 v5 v8 v9 v3.toNatClampNeg v6 (Int32.ofInt 0) J L).2.1)) _ := k
      have k := ly_revb 3 (c' := (if v5 = 0 then 224 else 242, [(0, .ref (p 0)), (1, .int v1), (2, .int v2), (3, .int v3), (4, .int v4), (5, .int v5), (6, .long ((x231_87 p v1 v2 v3 v4 v5 v8 v9 v3.toNatClampNeg v6 (Int32.ofInt 0) J L).1)), (8, .int v8), (9, .int v9), (10, .int w10), (11, .int w11), (12, .int w12)], [.int v8], me_w (lw M ((x231_87 p v1 v2 v3 v4 v5 v8 v9 v3.toNatClampNeg v6 (Int32.ofInt 0) J L).2.2)) ((x231_87 p v1 v2 v3 v4 v5 v8 v9 v3.toNatClampNeg v6 (Int32.ofInt 0) J L).2.1))) rfl k
      by_cases h221 : v5 = 0
      · rw [if_pos h221] at k
        have k := ly_revb 1 (c' := (225, [(0, .ref (p 0)), (1, .int v1), (2, .int v2), (3, .int v3), (4, .int v4), (5, .int v5), (6, .long ((x231_87 p v1 v2 v3 v4 v5 v8 v9 v3.toNatClampNeg v6 (Int32.ofInt 0) J L).1)), (8, .int v8), (9, .int v9), (10, .int w10), (11, .int w11), (12, .int w12)], [.ref (p 0), .int v8], me_w (lw M ((x231_87 p v1 v2 v3 v4 v5 v8 v9 v3.toNatClampNeg v6 (Int32.ofInt 0) J L).2.2)) ((x231_87 p v1 v2 v3 v4 v5 v8 v9 v3.toNatClampNeg v6 (Int32.ofInt 0) J L).2.1))) rfl k
        have k := lz_get (a := (p 0)) (g := 1127) (M := me_w (lw M ((x231_87 p v1 v2 v3 v4 v5 v8 v9 v3.toNatClampNeg v6 (Int32.ofInt 0) J L).2.2)) ((x231_87 p v1 v2 v3 v4 v5 v8 v9 v3.toNatClampNeg v6 (Int32.ofInt 0) J L).2.1)) (v := .ref (p 4)) rfl (nt_gfR rfl (mw_RL (hp.1 (0, 27, 4) (by decide)))) k
        have k := ly_revb 1 (c' := (230, [(0, .ref (p 0)), (1, .int v1), (2, .int v2), (3, .int v3), (4, .int v4), (5, .int v5), (6, .long ((x231_87 p v1 v2 v3 v4 v5 v8 v9 v3.toNatClampNeg v6 (Int32.ofInt 0) J L).1)), (8, .int v8), (9, .int v9), (10, .int w10), (11, .int w11), (12, .int w12)], [.int (Int32.ofInt 7), .ref (p 4), .int v8], me_w (lw M ((x231_87 p v1 v2 v3 v4 v5 v8 v9 v3.toNatClampNeg v6 (Int32.ofInt 0) J L).2.2)) ((x231_87 p v1 v2 v3 v4 v5 v8 v9 v3.toNatClampNeg v6 (Int32.ofInt 0) J L).2.1))) rfl k
        have k := mx_iald (v := ((x231_87 p v1 v2 v3 v4 v5 v8 v9 v3.toNatClampNeg v6 (Int32.ofInt 0) J L).2.1) (p 4) 7) rfl (hp.2.2.1 4 (by omega)) ((congrArg (((x231_87 p v1 v2 v3 v4 v5 v8 v9 v3.toNatClampNeg v6 (Int32.ofInt 0) J L).2.1) (p 4)) (show (Int32.ofInt 7).toNatClampNeg = 7 from rfl)).trans (rfl)) k
        have k := ly_revb 1 (c' := (232, [(0, .ref (p 0)), (1, .int v1), (2, .int v2), (3, .int v3), (4, .int v4), (5, .int v5), (6, .long ((x231_87 p v1 v2 v3 v4 v5 v8 v9 v3.toNatClampNeg v6 (Int32.ofInt 0) J L).1)), (8, .int v8), (9, .int v9), (10, .int w10), (11, .int w11), (12, .int w12)], [.ref (p 0), .int (((x231_87 p v1 v2 v3 v4 v5 v8 v9 v3.toNatClampNeg v6 (Int32.ofInt 0) J L).2.1) (p 4) 7), .int v8], me_w (lw M ((x231_87 p v1 v2 v3 v4 v5 v8 v9 v3.toNatClampNeg v6 (Int32.ofInt 0) J L).2.2)) ((x231_87 p v1 v2 v3 v4 v5 v8 v9 v3.toNatClampNeg v6 (Int32.ofInt 0) J L).2.1))) rfl k
        have k := lz_get (a := (p 0)) (g := 1128) (M := me_w (lw M ((x231_87 p v1 v2 v3 v4 v5 v8 v9 v3.toNatClampNeg v6 (Int32.ofInt 0) J L).2.2)) ((x231_87 p v1 v2 v3 v4 v5 v8 v9 v3.toNatClampNeg v6 (Int32.ofInt 0) J L).2.1)) (v := .ref (p 7)) rfl (nt_gfR rfl (mw_RL (hp.1 (0, 28, 7) (by decide)))) k
        have k := ly_revb 1 (c' := (237, [(0, .ref (p 0)), (1, .int v1), (2, .int v2), (3, .int v3), (4, .int v4), (5, .int v5), (6, .long ((x231_87 p v1 v2 v3 v4 v5 v8 v9 v3.toNatClampNeg v6 (Int32.ofInt 0) J L).1)), (8, .int v8), (9, .int v9), (10, .int w10), (11, .int w11), (12, .int w12)], [.int (Int32.ofInt 7), .ref (p 7), .int (((x231_87 p v1 v2 v3 v4 v5 v8 v9 v3.toNatClampNeg v6 (Int32.ofInt 0) J L).2.1) (p 4) 7), .int v8], me_w (lw M ((x231_87 p v1 v2 v3 v4 v5 v8 v9 v3.toNatClampNeg v6 (Int32.ofInt 0) J L).2.2)) ((x231_87 p v1 v2 v3 v4 v5 v8 v9 v3.toNatClampNeg v6 (Int32.ofInt 0) J L).2.1))) rfl k
        have k := mx_iald (v := J (p 7) 7) rfl (hp.2.2.1 7 (by omega)) ((congrArg (((x231_87 p v1 v2 v3 v4 v5 v8 v9 v3.toNatClampNeg v6 (Int32.ofInt 0) J L).2.1) (p 7)) (show (Int32.ofInt 7).toNatClampNeg = 7 from rfl)).trans (congrFun (x231_87_frJ _ _ _ _ _ (hp.2.1 7 0 (by omega) (by omega) (by decide)) (hp.2.1 7 4 (by omega) (by omega) (by decide))) 7)) k
        have k := ly_revb 5 (c' := (253, [(8, .int (v8 + ((((x231_87 p v1 v2 v3 v4 v5 v8 v9 v3.toNatClampNeg v6 (Int32.ofInt 0) J L).2.1) (p 4) 7) - (J (p 7) 7)))), (0, .ref (p 0)), (1, .int v1), (2, .int v2), (3, .int v3), (4, .int v4), (5, .int v5), (6, .long ((x231_87 p v1 v2 v3 v4 v5 v8 v9 v3.toNatClampNeg v6 (Int32.ofInt 0) J L).1)), (9, .int v9), (10, .int w10), (11, .int w11), (12, .int w12)], [.ref (p 0)], me_w (lw M ((x231_87 p v1 v2 v3 v4 v5 v8 v9 v3.toNatClampNeg v6 (Int32.ofInt 0) J L).2.2)) ((x231_87 p v1 v2 v3 v4 v5 v8 v9 v3.toNatClampNeg v6 (Int32.ofInt 0) J L).2.1))) rfl k
        obtain ⟨d1, o1, ed, kc, k⟩ := lz_c (g := 229) (q := 1) (vs := [.ref (p 0)]) (rest := []) rfl rfl (by decide) (Or.inr (Or.inl ⟨_, rfl, rfl⟩)) rfl k
        have e1 := xt229 (xs_lp hp) kc
        subst e1
        have k : nt_rn X _ 231 (256, [(8, .int (v8 + ((((x231_87 p v1 v2 v3 v4 v5 v8 v9 v3.toNatClampNeg v6 (Int32.ofInt 0) J L).2.1) (p 4) 7) - (J (p 7) 7)))), (0, .ref (p 0)), (1, .int v1), (2, .int v2), (3, .int v3), (4, .int v4), (5, .int v5), (6, .long ((x231_87 p v1 v2 v3 v4 v5 v8 v9 v3.toNatClampNeg v6 (Int32.ofInt 0) J L).1)), (9, .int v9), (10, .int w10), (11, .int w11), (12, .int w12)], [], me_w (lw M ((x231_87 p v1 v2 v3 v4 v5 v8 v9 v3.toNatClampNeg v6 (Int32.ofInt 0) J L).2.2)) (x229 p ((x231_87 p v1 v2 v3 v4 v5 v8 v9 v3.toNatClampNeg v6 (Int32.ofInt 0) J L).2.1))) _ := k
        have k := ly_revb 2 (c' := (78, [(9, .int (v9 + (Int32.ofInt 1))), (8, .int (v8 + ((((x231_87 p v1 v2 v3 v4 v5 v8 v9 v3.toNatClampNeg v6 (Int32.ofInt 0) J L).2.1) (p 4) 7) - (J (p 7) 7)))), (0, .ref (p 0)), (1, .int v1), (2, .int v2), (3, .int v3), (4, .int v4), (5, .int v5), (6, .long ((x231_87 p v1 v2 v3 v4 v5 v8 v9 v3.toNatClampNeg v6 (Int32.ofInt 0) J L).1)), (10, .int w10), (11, .int w11), (12, .int w12)], [], me_w (lw M ((x231_87 p v1 v2 v3 v4 v5 v8 v9 v3.toNatClampNeg v6 (Int32.ofInt 0) J L).2.2)) (x229 p ((x231_87 p v1 v2 v3 v4 v5 v8 v9 v3.toNatClampNeg v6 (Int32.ofInt 0) J L).2.1)))) rfl k
        have k := nt_rn_w (a := [(9, .int (v9 + (Int32.ofInt 1))), (8, .int (v8 + ((((x231_87 p v1 v2 v3 v4 v5 v8 v9 v3.toNatClampNeg v6 (Int32.ofInt 0) J L).2.1) (p 4) 7) - (J (p 7) 7)))), (0, .ref (p 0)), (1, .int v1), (2, .int v2), (3, .int v3), (4, .int v4), (5, .int v5), (6, .long ((x231_87 p v1 v2 v3 v4 v5 v8 v9 v3.toNatClampNeg v6 (Int32.ofInt 0) J L).1)), (10, .int w10), (11, .int w11), (12, .int w12)]) (b := [(0, .ref (p 0)), (1, .int v1), (2, .int v2), (3, .int v3), (4, .int v4), (5, .int v5), (6, .long ((x231_87 p v1 v2 v3 v4 v5 v8 v9 v3.toNatClampNeg v6 (Int32.ofInt 0) J L).1)), (8, .int (v8 + ((((x231_87 p v1 v2 v3 v4 v5 v8 v9 v3.toNatClampNeg v6 (Int32.ofInt 0) J L).2.1) (p 4) 7) - (J (p 7) 7)))), (9, .int (v9 + (Int32.ofInt 1))), (10, .int w10), (11, .int w11), (12, .int w12)]) ⟨rfl, rfl, rfl, rfl, rfl, rfl, rfl, rfl, rfl, rfl, rfl, rfl, trivial⟩ rfl k
        have k := ih ((x231_87 p v1 v2 v3 v4 v5 v8 v9 v3.toNatClampNeg v6 (Int32.ofInt 0) J L).1) (v8 + ((((x231_87 p v1 v2 v3 v4 v5 v8 v9 v3.toNatClampNeg v6 (Int32.ofInt 0) J L).2.1) (p 4) 7) - (J (p 7) 7))) (v9 + (Int32.ofInt 1)) w10 w11 w12 (x229 p ((x231_87 p v1 v2 v3 v4 v5 v8 v9 v3.toNatClampNeg v6 (Int32.ofInt 0) J L).2.1)) ((x231_87 p v1 v2 v3 v4 v5 v8 v9 v3.toNatClampNeg v6 (Int32.ofInt 0) J L).2.2) (⟨by rw [x229_frJ (hp.2.1 7 4 (by omega) (by omega) (by decide)), x231_87_frJ _ _ _ _ _ (hp.2.1 7 0 (by omega) (by omega) (by decide)) (hp.2.1 7 4 (by omega) (by omega) (by decide))]; exact hc.1, xw_229 (hp.2.1 7 4 (by omega) (by omega) (by decide)) (by rw [x231_87_frJ _ _ _ _ _ (hp.2.1 7 0 (by omega) (by omega) (by decide)) (hp.2.1 7 4 (by omega) (by omega) (by decide))]; exact hc.1), lx_dec h81 hc.2.2⟩) k
        rw [k, x231_78, if_neg h81, if_pos h221]
      · rw [if_neg h221] at k
        have k := ly_revb 1 (c' := (243, [(0, .ref (p 0)), (1, .int v1), (2, .int v2), (3, .int v3), (4, .int v4), (5, .int v5), (6, .long ((x231_87 p v1 v2 v3 v4 v5 v8 v9 v3.toNatClampNeg v6 (Int32.ofInt 0) J L).1)), (8, .int v8), (9, .int v9), (10, .int w10), (11, .int w11), (12, .int w12)], [.ref (p 0), .int v8], me_w (lw M ((x231_87 p v1 v2 v3 v4 v5 v8 v9 v3.toNatClampNeg v6 (Int32.ofInt 0) J L).2.2)) ((x231_87 p v1 v2 v3 v4 v5 v8 v9 v3.toNatClampNeg v6 (Int32.ofInt 0) J L).2.1))) rfl k
        obtain ⟨d1, o1, ed, kc, k⟩ := lz_c (g := 228) (q := 1) (vs := [.ref (p 0)]) (rest := [.int v8]) rfl rfl (by decide) (Or.inr (Or.inl ⟨_, rfl, rfl⟩)) rfl k
        have e1 := xt228 (xs_lp hp) kc
        subst e1
        have k : nt_rn X _ 231 (246, [(0, .ref (p 0)), (1, .int v1), (2, .int v2), (3, .int v3), (4, .int v4), (5, .int v5), (6, .long ((x231_87 p v1 v2 v3 v4 v5 v8 v9 v3.toNatClampNeg v6 (Int32.ofInt 0) J L).1)), (8, .int v8), (9, .int v9), (10, .int w10), (11, .int w11), (12, .int w12)], [.int (x228 p ((x231_87 p v1 v2 v3 v4 v5 v8 v9 v3.toNatClampNeg v6 (Int32.ofInt 0) J L).2.1)), .int v8], me_w (lw M ((x231_87 p v1 v2 v3 v4 v5 v8 v9 v3.toNatClampNeg v6 (Int32.ofInt 0) J L).2.2)) ((x231_87 p v1 v2 v3 v4 v5 v8 v9 v3.toNatClampNeg v6 (Int32.ofInt 0) J L).2.1)) _ := k
        obtain ⟨d1, o1, ed, kc, k⟩ := lz_c (g := 214) (q := 0) (vs := [.int (x228 p ((x231_87 p v1 v2 v3 v4 v5 v8 v9 v3.toNatClampNeg v6 (Int32.ofInt 0) J L).2.1))]) (rest := [.int v8]) rfl rfl (by decide) (Or.inl ⟨_, rfl, rfl⟩) rfl k
        have e1 := xt214  kc
        subst e1
        have k : nt_rn X _ 231 (249, [(0, .ref (p 0)), (1, .int v1), (2, .int v2), (3, .int v3), (4, .int v4), (5, .int v5), (6, .long ((x231_87 p v1 v2 v3 v4 v5 v8 v9 v3.toNatClampNeg v6 (Int32.ofInt 0) J L).1)), (8, .int v8), (9, .int v9), (10, .int w10), (11, .int w11), (12, .int w12)], [.int (x214 (x228 p ((x231_87 p v1 v2 v3 v4 v5 v8 v9 v3.toNatClampNeg v6 (Int32.ofInt 0) J L).2.1))), .int v8], me_w (lw M ((x231_87 p v1 v2 v3 v4 v5 v8 v9 v3.toNatClampNeg v6 (Int32.ofInt 0) J L).2.2)) ((x231_87 p v1 v2 v3 v4 v5 v8 v9 v3.toNatClampNeg v6 (Int32.ofInt 0) J L).2.1)) _ := k
        have k := ly_revb 3 (c' := (253, [(8, .int (v8 + (x214 (x228 p ((x231_87 p v1 v2 v3 v4 v5 v8 v9 v3.toNatClampNeg v6 (Int32.ofInt 0) J L).2.1))))), (0, .ref (p 0)), (1, .int v1), (2, .int v2), (3, .int v3), (4, .int v4), (5, .int v5), (6, .long ((x231_87 p v1 v2 v3 v4 v5 v8 v9 v3.toNatClampNeg v6 (Int32.ofInt 0) J L).1)), (9, .int v9), (10, .int w10), (11, .int w11), (12, .int w12)], [.ref (p 0)], me_w (lw M ((x231_87 p v1 v2 v3 v4 v5 v8 v9 v3.toNatClampNeg v6 (Int32.ofInt 0) J L).2.2)) ((x231_87 p v1 v2 v3 v4 v5 v8 v9 v3.toNatClampNeg v6 (Int32.ofInt 0) J L).2.1))) rfl k
        obtain ⟨d1, o1, ed, kc, k⟩ := lz_c (g := 229) (q := 1) (vs := [.ref (p 0)]) (rest := []) rfl rfl (by decide) (Or.inr (Or.inl ⟨_, rfl, rfl⟩)) rfl k
        have e1 := xt229 (xs_lp hp) kc
        subst e1
        have k : nt_rn X _ 231 (256, [(8, .int (v8 + (x214 (x228 p ((x231_87 p v1 v2 v3 v4 v5 v8 v9 v3.toNatClampNeg v6 (Int32.ofInt 0) J L).2.1))))), (0, .ref (p 0)), (1, .int v1), (2, .int v2), (3, .int v3), (4, .int v4), (5, .int v5), (6, .long ((x231_87 p v1 v2 v3 v4 v5 v8 v9 v3.toNatClampNeg v6 (Int32.ofInt 0) J L).1)), (9, .int v9), (10, .int w10), (11, .int w11), (12, .int w12)], [], me_w (lw M ((x231_87 p v1 v2 v3 v4 v5 v8 v9 v3.toNatClampNeg v6 (Int32.ofInt 0) J L).2.2)) (x229 p ((x231_87 p v1 v2 v3 v4 v5 v8 v9 v3.toNatClampNeg v6 (Int32.ofInt 0) J L).2.1))) _ := k
        have k := ly_revb 2 (c' := (78, [(9, .int (v9 + (Int32.ofInt 1))), (8, .int (v8 + (x214 (x228 p ((x231_87 p v1 v2 v3 v4 v5 v8 v9 v3.toNatClampNeg v6 (Int32.ofInt 0) J L).2.1))))), (0, .ref (p 0)), (1, .int v1), (2, .int v2), (3, .int v3), (4, .int v4), (5, .int v5), (6, .long ((x231_87 p v1 v2 v3 v4 v5 v8 v9 v3.toNatClampNeg v6 (Int32.ofInt 0) J L).1)), (10, .int w10), (11, .int w11), (12, .int w12)], [], me_w (lw M ((x231_87 p v1 v2 v3 v4 v5 v8 v9 v3.toNatClampNeg v6 (Int32.ofInt 0) J L).2.2)) (x229 p ((x231_87 p v1 v2 v3 v4 v5 v8 v9 v3.toNatClampNeg v6 (Int32.ofInt 0) J L).2.1)))) rfl k
        have k := nt_rn_w (a := [(9, .int (v9 + (Int32.ofInt 1))), (8, .int (v8 + (x214 (x228 p ((x231_87 p v1 v2 v3 v4 v5 v8 v9 v3.toNatClampNeg v6 (Int32.ofInt 0) J L).2.1))))), (0, .ref (p 0)), (1, .int v1), (2, .int v2), (3, .int v3), (4, .int v4), (5, .int v5), (6, .long ((x231_87 p v1 v2 v3 v4 v5 v8 v9 v3.toNatClampNeg v6 (Int32.ofInt 0) J L).1)), (10, .int w10), (11, .int w11), (12, .int w12)]) (b := [(0, .ref (p 0)), (1, .int v1), (2, .int v2), (3, .int v3), (4, .int v4), (5, .int v5), (6, .long ((x231_87 p v1 v2 v3 v4 v5 v8 v9 v3.toNatClampNeg v6 (Int32.ofInt 0) J L).1)), (8, .int (v8 + (x214 (x228 p ((x231_87 p v1 v2 v3 v4 v5 v8 v9 v3.toNatClampNeg v6 (Int32.ofInt 0) J L).2.1))))), (9, .int (v9 + (Int32.ofInt 1))), (10, .int w10), (11, .int w11), (12, .int w12)]) ⟨rfl, rfl, rfl, rfl, rfl, rfl, rfl, rfl, rfl, rfl, rfl, rfl, trivial⟩ rfl k
        have k := ih ((x231_87 p v1 v2 v3 v4 v5 v8 v9 v3.toNatClampNeg v6 (Int32.ofInt 0) J L).1) (v8 + (x214 (x228 p ((x231_87 p v1 v2 v3 v4 v5 v8 v9 v3.toNatClampNeg v6 (Int32.ofInt 0) J L).2.1)))) (v9 + (Int32.ofInt 1)) w10 w11 w12 (x229 p ((x231_87 p v1 v2 v3 v4 v5 v8 v9 v3.toNatClampNeg v6 (Int32.ofInt 0) J L).2.1)) ((x231_87 p v1 v2 v3 v4 v5 v8 v9 v3.toNatClampNeg v6 (Int32.ofInt 0) J L).2.2) (⟨by rw [x229_frJ (hp.2.1 7 4 (by omega) (by omega) (by decide)), x231_87_frJ _ _ _ _ _ (hp.2.1 7 0 (by omega) (by omega) (by decide)) (hp.2.1 7 4 (by omega) (by omega) (by decide))]; exact hc.1, xw_229 (hp.2.1 7 4 (by omega) (by omega) (by decide)) (by rw [x231_87_frJ _ _ _ _ _ (hp.2.1 7 0 (by omega) (by omega) (by decide)) (hp.2.1 7 4 (by omega) (by omega) (by decide))]; exact hc.1), lx_dec h81 hc.2.2⟩) k
        rw [k, x231_78, if_neg h81, if_neg h221]
theorem x231_78_rule {p : Nat → Nat} {v1 : Int32} {v2 : Int32} {v3 : Int32} {v4 : Int32} {v5 : Int32} {I : Nat → Int64 → Int32 → Int32 → (Nat → Nat → Int32) → (Nat → Nat → Int64) → Prop} {Q : Int32 × (Nat → Nat → Int32) × (Nat → Nat → Int64) → Prop} (h0 : ∀ (v6 : Int64) (v8 : Int32) (v9 : Int32) (J : Nat → Nat → Int32) (L : Nat → Nat → Int64), I 0 v6 v8 v9 J L → Q (v8, J, L)) (h1 : ∀ (c : Nat) (v6 : Int64) (v8 : Int32) (v9 : Int32) (J : Nat → Nat → Int32) (L : Nat → Nat → Int64), I (c + 1) v6 v8 v9 J L →
    if v2 ≤ v9 then (Q (v8, J, L))
    else if v5 = 0 then (I c ((x231_87 p v1 v2 v3 v4 v5 v8 v9 v3.toNatClampNeg v6 (Int32.ofInt 0) J L).1) (v8 + ((((x231_87 p v1 v2 v3 v4 v5 v8 v9 v3.toNatClampNeg v6 (Int32.ofInt 0) J L).2.1) (p 4) 7) - (J (p 7) 7))) (v9 + (Int32.ofInt 1)) (x229 p ((x231_87 p v1 v2 v3 v4 v5 v8 v9 v3.toNatClampNeg v6 (Int32.ofInt 0) J L).2.1)) ((x231_87 p v1 v2 v3 v4 v5 v8 v9 v3.toNatClampNeg v6 (Int32.ofInt 0) J L).2.2))
      else (I c ((x231_87 p v1 v2 v3 v4 v5 v8 v9 v3.toNatClampNeg v6 (Int32.ofInt 0) J L).1) (v8 + (x214 (x228 p ((x231_87 p v1 v2 v3 v4 v5 v8 v9 v3.toNatClampNeg v6 (Int32.ofInt 0) J L).2.1)))) (v9 + (Int32.ofInt 1)) (x229 p ((x231_87 p v1 v2 v3 v4 v5 v8 v9 v3.toNatClampNeg v6 (Int32.ofInt 0) J L).2.1)) ((x231_87 p v1 v2 v3 v4 v5 v8 v9 v3.toNatClampNeg v6 (Int32.ofInt 0) J L).2.2))) : ∀ (c : Nat) (v6 : Int64) (v8 : Int32) (v9 : Int32) (J : Nat → Nat → Int32) (L : Nat → Nat → Int64), I c v6 v8 v9 J L → Q (x231_78 p v1 v2 v3 v4 v5 c v6 v8 v9 J L) := by
  intro c
  induction c with
  | zero =>
    intro v6 v8 v9 J L hi
    rw [x231_78]
    exact h0 v6 v8 v9 J L hi
  | succ c ih =>
    intro v6 v8 v9 J L hi
    have hi := h1 c v6 v8 v9 J L hi
    rw [x231_78]
    by_cases h : v2 ≤ v9
    · rw [if_pos h] at hi ⊢
      exact hi
    · rw [if_neg h] at hi ⊢
      by_cases h : v5 = 0
      · rw [if_pos h] at hi ⊢
        exact ih _ _ _ _ _ hi
      · rw [if_neg h] at hi ⊢
        exact ih _ _ _ _ _ hi
def x231 (p : Nat → Nat) (v1 : Int32) (v2 : Int32) (v3 : Int32) (v4 : Int32) (v5 : Int32) (J : Nat → Nat → Int32) (L : Nat → Nat → Int64) : Int32 × (Nat → Nat → Int32) × (Nat → Nat → Int64) := if (x187 p v1 J) = 0 then (Int32.ofInt (-1), J, L)
  else if (x145 v2.toInt64 (Int64.ofNat 1) 20) = 0 then (Int32.ofInt (-1), J, L)
    else if (x145 v3.toInt64 (Int64.ofNat 1) 100) = 0 then (Int32.ofInt (-1), J, L)
      else if (x145 v4.toInt64 (Int64.ofNat 0) 100) = 0 then (Int32.ofInt (-1), J, L)
        else if (x145 v5.toInt64 (Int64.ofNat 0) (Int64.ofNat 1)) = 0 then (Int32.ofInt (-1), J, L)
          else (x231_78 p v1 v2 v3 v4 v5 v2.toNatClampNeg ((J (p 4) 9).toInt64) (Int32.ofInt 0) (Int32.ofInt 0) (x227 p J) L)
theorem xt231 {X : nt_X} {d : Nat} {M : nt_M} {o : Option Value × nt_M} {p : Nat → Nat} {v1 : Int32} {v2 : Int32} {v3 : Int32} {v4 : Int32} {v5 : Int32} {J : Nat → Nat → Int32} {L : Nat → Nat → Int64} (hp : xs_P M p) (hw : xr_W (J (p 4))) (k : nt_ev X d 231 [.ref (p 0), .int v1, .int v2, .int v3, .int v4, .int v5] (me_w (lw M L) J) o) : o = (some (.int ((x231 p v1 v2 v3 v4 v5 J L).1)), me_w (lw M ((x231 p v1 v2 v3 v4 v5 J L).2.2)) ((x231 p v1 v2 v3 v4 v5 J L).2.1)) := by
  have k : nt_rn X d 231 (0, [(0, .ref (p 0)), (1, .int v1), (2, .int v2), (3, .int v3), (4, .int v4), (5, .int v5)], [], me_w (lw M L) J) o := k
  have k := ly_revb 2 (c' := (2, [(0, .ref (p 0)), (1, .int v1), (2, .int v2), (3, .int v3), (4, .int v4), (5, .int v5)], [.int v1, .ref (p 0)], me_w (lw M L) J)) rfl k
  obtain ⟨d1, o1, ed, kc, k⟩ := lz_c (g := 187) (q := 1) (vs := [.ref (p 0), .int v1]) (rest := []) rfl rfl (by decide) (Or.inr (Or.inl ⟨_, rfl, rfl⟩)) rfl k
  have e1 := xt187 (xs_lp hp) kc
  subst e1
  have k : nt_rn X _ 231 (5, [(0, .ref (p 0)), (1, .int v1), (2, .int v2), (3, .int v3), (4, .int v4), (5, .int v5)], [.int (x187 p v1 J)], me_w (lw M L) J) _ := k
  have k := ly_revb 1 (c' := (if (x187 p v1 J) = 0 then 56 else 8, [(0, .ref (p 0)), (1, .int v1), (2, .int v2), (3, .int v3), (4, .int v4), (5, .int v5)], [], me_w (lw M L) J)) rfl k
  by_cases h5 : (x187 p v1 J) = 0
  · rw [if_pos h5] at k
    have k := ly_revb 1 (c' := (57, [(0, .ref (p 0)), (1, .int v1), (2, .int v2), (3, .int v3), (4, .int v4), (5, .int v5)], [.int (Int32.ofInt (-1))], me_w (lw M L) J)) rfl k
    have k := lz_ri rfl (by decide) k
    rw [k, x231, if_pos h5]
  · rw [if_neg h5] at k
    have k := ly_revb 4 (c' := (14, [(0, .ref (p 0)), (1, .int v1), (2, .int v2), (3, .int v3), (4, .int v4), (5, .int v5)], [.long 20, .long (Int64.ofNat 1), .long v2.toInt64], me_w (lw M L) J)) rfl k
    obtain ⟨d1, o1, ed, kc, k⟩ := lz_c (g := 145) (q := 0) (vs := [.long v2.toInt64, .long (Int64.ofNat 1), .long 20]) (rest := []) rfl rfl (by decide) (Or.inl ⟨_, rfl, rfl⟩) rfl k
    have e1 := xt145  kc
    subst e1
    have k : nt_rn X _ 231 (17, [(0, .ref (p 0)), (1, .int v1), (2, .int v2), (3, .int v3), (4, .int v4), (5, .int v5)], [.int (x145 v2.toInt64 (Int64.ofNat 1) 20)], me_w (lw M L) J) _ := k
    have k := ly_revb 1 (c' := (if (x145 v2.toInt64 (Int64.ofNat 1) 20) = 0 then 56 else 20, [(0, .ref (p 0)), (1, .int v1), (2, .int v2), (3, .int v3), (4, .int v4), (5, .int v5)], [], me_w (lw M L) J)) rfl k
    by_cases h17 : (x145 v2.toInt64 (Int64.ofNat 1) 20) = 0
    · rw [if_pos h17] at k
      have k := ly_revb 1 (c' := (57, [(0, .ref (p 0)), (1, .int v1), (2, .int v2), (3, .int v3), (4, .int v4), (5, .int v5)], [.int (Int32.ofInt (-1))], me_w (lw M L) J)) rfl k
      have k := lz_ri rfl (by decide) k
      rw [k, x231, if_neg h5, if_pos h17]
    · rw [if_neg h17] at k
      have k := ly_revb 4 (c' := (26, [(0, .ref (p 0)), (1, .int v1), (2, .int v2), (3, .int v3), (4, .int v4), (5, .int v5)], [.long 100, .long (Int64.ofNat 1), .long v3.toInt64], me_w (lw M L) J)) rfl k
      obtain ⟨d1, o1, ed, kc, k⟩ := lz_c (g := 145) (q := 0) (vs := [.long v3.toInt64, .long (Int64.ofNat 1), .long 100]) (rest := []) rfl rfl (by decide) (Or.inl ⟨_, rfl, rfl⟩) rfl k
      have e1 := xt145  kc
      subst e1
      have k : nt_rn X _ 231 (29, [(0, .ref (p 0)), (1, .int v1), (2, .int v2), (3, .int v3), (4, .int v4), (5, .int v5)], [.int (x145 v3.toInt64 (Int64.ofNat 1) 100)], me_w (lw M L) J) _ := k
      have k := ly_revb 1 (c' := (if (x145 v3.toInt64 (Int64.ofNat 1) 100) = 0 then 56 else 32, [(0, .ref (p 0)), (1, .int v1), (2, .int v2), (3, .int v3), (4, .int v4), (5, .int v5)], [], me_w (lw M L) J)) rfl k
      by_cases h29 : (x145 v3.toInt64 (Int64.ofNat 1) 100) = 0
      · rw [if_pos h29] at k
        have k := ly_revb 1 (c' := (57, [(0, .ref (p 0)), (1, .int v1), (2, .int v2), (3, .int v3), (4, .int v4), (5, .int v5)], [.int (Int32.ofInt (-1))], me_w (lw M L) J)) rfl k
        have k := lz_ri rfl (by decide) k
        rw [k, x231, if_neg h5, if_neg h17, if_pos h29]
      · rw [if_neg h29] at k
        have k := ly_revb 4 (c' := (39, [(0, .ref (p 0)), (1, .int v1), (2, .int v2), (3, .int v3), (4, .int v4), (5, .int v5)], [.long 100, .long (Int64.ofNat 0), .long v4.toInt64], me_w (lw M L) J)) rfl k
        obtain ⟨d1, o1, ed, kc, k⟩ := lz_c (g := 145) (q := 0) (vs := [.long v4.toInt64, .long (Int64.ofNat 0), .long 100]) (rest := []) rfl rfl (by decide) (Or.inl ⟨_, rfl, rfl⟩) rfl k
        have e1 := xt145  kc
        subst e1
        have k : nt_rn X _ 231 (42, [(0, .ref (p 0)), (1, .int v1), (2, .int v2), (3, .int v3), (4, .int v4), (5, .int v5)], [.int (x145 v4.toInt64 (Int64.ofNat 0) 100)], me_w (lw M L) J) _ := k
        have k := ly_revb 1 (c' := (if (x145 v4.toInt64 (Int64.ofNat 0) 100) = 0 then 56 else 45, [(0, .ref (p 0)), (1, .int v1), (2, .int v2), (3, .int v3), (4, .int v4), (5, .int v5)], [], me_w (lw M L) J)) rfl k
        by_cases h42 : (x145 v4.toInt64 (Int64.ofNat 0) 100) = 0
        · rw [if_pos h42] at k
          have k := ly_revb 1 (c' := (57, [(0, .ref (p 0)), (1, .int v1), (2, .int v2), (3, .int v3), (4, .int v4), (5, .int v5)], [.int (Int32.ofInt (-1))], me_w (lw M L) J)) rfl k
          have k := lz_ri rfl (by decide) k
          rw [k, x231, if_neg h5, if_neg h17, if_neg h29, if_pos h42]
        · rw [if_neg h42] at k
          have k := ly_revb 4 (c' := (50, [(0, .ref (p 0)), (1, .int v1), (2, .int v2), (3, .int v3), (4, .int v4), (5, .int v5)], [.long (Int64.ofNat 1), .long (Int64.ofNat 0), .long v5.toInt64], me_w (lw M L) J)) rfl k
          obtain ⟨d1, o1, ed, kc, k⟩ := lz_c (g := 145) (q := 0) (vs := [.long v5.toInt64, .long (Int64.ofNat 0), .long (Int64.ofNat 1)]) (rest := []) rfl rfl (by decide) (Or.inl ⟨_, rfl, rfl⟩) rfl k
          have e1 := xt145  kc
          subst e1
          have k : nt_rn X _ 231 (53, [(0, .ref (p 0)), (1, .int v1), (2, .int v2), (3, .int v3), (4, .int v4), (5, .int v5)], [.int (x145 v5.toInt64 (Int64.ofNat 0) (Int64.ofNat 1))], me_w (lw M L) J) _ := k
          have k := ly_revb 1 (c' := (if (x145 v5.toInt64 (Int64.ofNat 0) (Int64.ofNat 1)) = 0 then 56 else 58, [(0, .ref (p 0)), (1, .int v1), (2, .int v2), (3, .int v3), (4, .int v4), (5, .int v5)], [], me_w (lw M L) J)) rfl k
          by_cases h53 : (x145 v5.toInt64 (Int64.ofNat 0) (Int64.ofNat 1)) = 0
          · rw [if_pos h53] at k
            have k := ly_revb 1 (c' := (57, [(0, .ref (p 0)), (1, .int v1), (2, .int v2), (3, .int v3), (4, .int v4), (5, .int v5)], [.int (Int32.ofInt (-1))], me_w (lw M L) J)) rfl k
            have k := lz_ri rfl (by decide) k
            rw [k, x231, if_neg h5, if_neg h17, if_neg h29, if_neg h42, if_pos h53]
          · rw [if_neg h53] at k
            have k := ly_revb 1 (c' := (59, [(0, .ref (p 0)), (1, .int v1), (2, .int v2), (3, .int v3), (4, .int v4), (5, .int v5)], [.ref (p 0)], me_w (lw M L) J)) rfl k
            obtain ⟨d1, o1, ed, kc, k⟩ := lz_c (g := 227) (q := 1) (vs := [.ref (p 0)]) (rest := []) rfl rfl (by decide) (Or.inr (Or.inl ⟨_, rfl, rfl⟩)) rfl k
            have e1 := xt227 (xs_lp hp) kc
            subst e1
            have k : nt_rn X _ 231 (62, [(0, .ref (p 0)), (1, .int v1), (2, .int v2), (3, .int v3), (4, .int v4), (5, .int v5)], [], me_w (lw M L) (x227 p J)) _ := k
            have k := ly_revb 1 (c' := (63, [(0, .ref (p 0)), (1, .int v1), (2, .int v2), (3, .int v3), (4, .int v4), (5, .int v5)], [.ref (p 0)], me_w (lw M L) (x227 p J))) rfl k
            have k := lz_get (a := (p 0)) (g := 1127) (M := me_w (lw M L) (x227 p J)) (v := .ref (p 4)) rfl (nt_gfR rfl (mw_RL (hp.1 (0, 27, 4) (by decide)))) k
            have k := ly_revb 1 (c' := (68, [(0, .ref (p 0)), (1, .int v1), (2, .int v2), (3, .int v3), (4, .int v4), (5, .int v5)], [.int (Int32.ofInt 9), .ref (p 4)], me_w (lw M L) (x227 p J))) rfl k
            have k := mx_iald (v := J (p 4) 9) rfl (hp.2.2.1 4 (by omega)) ((congrArg ((x227 p J) (p 4)) (show (Int32.ofInt 9).toNatClampNeg = 9 from rfl)).trans (congrFun (x227_frJ  (hp.2.1 4 7 (by omega) (by omega) (by decide))) 9)) k
            have k := ly_revb 6 (c' := (78, [(9, .int (Int32.ofInt 0)), (8, .int (Int32.ofInt 0)), (6, .long ((J (p 4) 9).toInt64)), (0, .ref (p 0)), (1, .int v1), (2, .int v2), (3, .int v3), (4, .int v4), (5, .int v5)], [], me_w (lw M L) (x227 p J))) rfl k
            have k := nt_rn_w (a := [(9, .int (Int32.ofInt 0)), (8, .int (Int32.ofInt 0)), (6, .long ((J (p 4) 9).toInt64)), (0, .ref (p 0)), (1, .int v1), (2, .int v2), (3, .int v3), (4, .int v4), (5, .int v5)]) (b := [(0, .ref (p 0)), (1, .int v1), (2, .int v2), (3, .int v3), (4, .int v4), (5, .int v5), (6, .long ((J (p 4) 9).toInt64)), (8, .int (Int32.ofInt 0)), (9, .int (Int32.ofInt 0)), (10, .int (Int32.ofInt 0)), (11, .int (Int32.ofInt 0)), (12, .int (Int32.ofInt 0))]) ⟨rfl, rfl, rfl, rfl, rfl, rfl, rfl, rfl, rfl, trivial⟩ rfl k
            have k := xt231_78 hp  v2.toNatClampNeg ((J (p 4) 9).toInt64) (Int32.ofInt 0) (Int32.ofInt 0) (Int32.ofInt 0) (Int32.ofInt 0) (Int32.ofInt 0) (x227 p J) L (⟨xr_ae (fun j hj => zkp (hp.2.1 4 7 (by omega) (by omega) (by decide)) hj) hw, by rw [x227_frJ (hp.2.1 4 7 (by omega) (by omega) (by decide))]; exact hw, lx_beg (by decide)⟩) k
            rw [k, x231, if_neg h5, if_neg h17, if_neg h29, if_neg h42, if_neg h53]
theorem x231_78_frJ {p : Nat → Nat} {v1 : Int32} {v2 : Int32} {v3 : Int32} {v4 : Int32} {v5 : Int32} {b : Nat} : ∀ (c : Nat) (v6 : Int64) (v8 : Int32) (v9 : Int32) (J : Nat → Nat → Int32) (L : Nat → Nat → Int64), b ≠ p 0 → b ≠ p 4 → b ≠ p 7 → (x231_78 p v1 v2 v3 v4 v5 c v6 v8 v9 J L).2.1 b = J b := by
  intro c
  induction c with
  | zero =>
    intro v6 v8 v9 J L n0 n1 n2
    rw [x231_78]
    all_goals first | (dsimp only; exact (show J b = J b from rfl)) | exact (show J b = J b from rfl)
  | succ c ih =>
    intro v6 v8 v9 J L n0 n1 n2
    rw [x231_78]
    by_cases h : v2 ≤ v9
    · rw [if_pos h]
      all_goals first | (dsimp only; exact (show J b = J b from rfl)) | exact (show J b = J b from rfl)
    · rw [if_neg h]
      by_cases h : v5 = 0
      · rw [if_pos h]
        exact (ih _ _ _ _ _ n0 n1 n2).trans ((x229_frJ  n1).trans (x231_87_frJ _ _ _ _ _ n0 n1))
      · rw [if_neg h]
        exact (ih _ _ _ _ _ n0 n1 n2).trans ((x229_frJ  n1).trans (x231_87_frJ _ _ _ _ _ n0 n1))
theorem x231_frJ {p : Nat → Nat} {v1 : Int32} {v2 : Int32} {v3 : Int32} {v4 : Int32} {v5 : Int32} {J : Nat → Nat → Int32} {L : Nat → Nat → Int64} {b : Nat} (n0 : b ≠ p 0) (n1 : b ≠ p 4) (n2 : b ≠ p 7) : (x231 p v1 v2 v3 v4 v5 J L).2.1 b = J b := by
  unfold x231
  by_cases h : (x187 p v1 J) = 0
  · rw [if_pos h]
    all_goals first | (dsimp only; exact (show J b = J b from rfl)) | exact (show J b = J b from rfl)
  · rw [if_neg h]
    by_cases h : (x145 v2.toInt64 (Int64.ofNat 1) 20) = 0
    · rw [if_pos h]
      all_goals first | (dsimp only; exact (show J b = J b from rfl)) | exact (show J b = J b from rfl)
    · rw [if_neg h]
      by_cases h : (x145 v3.toInt64 (Int64.ofNat 1) 100) = 0
      · rw [if_pos h]
        all_goals first | (dsimp only; exact (show J b = J b from rfl)) | exact (show J b = J b from rfl)
      · rw [if_neg h]
        by_cases h : (x145 v4.toInt64 (Int64.ofNat 0) 100) = 0
        · rw [if_pos h]
          all_goals first | (dsimp only; exact (show J b = J b from rfl)) | exact (show J b = J b from rfl)
        · rw [if_neg h]
          by_cases h : (x145 v5.toInt64 (Int64.ofNat 0) (Int64.ofNat 1)) = 0
          · rw [if_pos h]
            all_goals first | (dsimp only; exact (show J b = J b from rfl)) | exact (show J b = J b from rfl)
          · rw [if_neg h]
            exact (x231_78_frJ _ _ _ _ _ _ n0 n1 n2).trans (x227_frJ  n2)
end
section
/-! years, the class -/
/-! $State.firstSoundIn -/
def x82_2 (q : Nat → Nat) (v1 : Int32) (J : Nat → Nat → Int32) : Nat → Int32 → Int32
  | 0, v2 => (Int32.ofInt (-1))
  | c + 1, v2 => if (J (q 1) 2) ≤ v2 then (Int32.ofInt (-1))
    else if (J (q 14) v2.toNatClampNeg) = v1 then if (J (q 13) v2.toNatClampNeg) ≤ 0 then (x82_2 q v1 J c (v2 + (Int32.ofInt 1)))
        else v2
      else (x82_2 q v1 J c (v2 + (Int32.ofInt 1)))
theorem xt82_2 {X : nt_X} {d : Nat} {M : nt_M} {o : Option Value × nt_M} {q : Nat → Nat} {v1 : Int32} {J : Nat → Nat → Int32} (hq : xs_Q M q) : ∀ (c : Nat) (v2 : Int32), (J (q 1) 2).toInt - v2.toInt ≤ c → nt_rn X d 82 (2, [(0, .ref (q 0)), (1, .int v1), (2, .int v2)], [], me_w M J) o → o = (some (.int (x82_2 q v1 J c v2)), me_w M J) := by
  intro c
  induction c with
  | zero =>
    intro v2 hc k
    have k := ly_revb 2 (c' := (4, [(0, .ref (q 0)), (1, .int v1), (2, .int v2)], [.ref (q 0), .int v2], me_w M J)) rfl k
    have k := lz_get (a := (q 0)) (g := 600) (M := me_w M J) (v := .ref (q 1)) rfl (nt_gfR rfl (hq.1 (0, 0, 1) (by decide))) k
    have k := lz_get (a := (q 1)) (g := 802) (M := me_w M J) (v := .int (J (q 1) 2)) rfl (congrArg Value.int (rfl)) k
    have k := ly_revb 1 (c' := (if (J (q 1) 2) ≤ v2 then 40 else 13, [(0, .ref (q 0)), (1, .int v1), (2, .int v2)], [], me_w M J)) rfl k
    have h10 : (J (q 1) 2) ≤ v2 := lx_end hc
    rw [if_pos h10] at k
    have k := ly_revb 1 (c' := (41, [(0, .ref (q 0)), (1, .int v1), (2, .int v2)], [.int (Int32.ofInt (-1))], me_w M J)) rfl k
    have k := lz_ri rfl (by decide) k
    rw [k, x82_2]
  | succ c ih =>
    intro v2 hc k
    have k := ly_revb 2 (c' := (4, [(0, .ref (q 0)), (1, .int v1), (2, .int v2)], [.ref (q 0), .int v2], me_w M J)) rfl k
    have k := lz_get (a := (q 0)) (g := 600) (M := me_w M J) (v := .ref (q 1)) rfl (nt_gfR rfl (hq.1 (0, 0, 1) (by decide))) k
    have k := lz_get (a := (q 1)) (g := 802) (M := me_w M J) (v := .int (J (q 1) 2)) rfl (congrArg Value.int (rfl)) k
    have k := ly_revb 1 (c' := (if (J (q 1) 2) ≤ v2 then 40 else 13, [(0, .ref (q 0)), (1, .int v1), (2, .int v2)], [], me_w M J)) rfl k
    by_cases h10 : (J (q 1) 2) ≤ v2
    · rw [if_pos h10] at k
      have k := ly_revb 1 (c' := (41, [(0, .ref (q 0)), (1, .int v1), (2, .int v2)], [.int (Int32.ofInt (-1))], me_w M J)) rfl k
      have k := lz_ri rfl (by decide) k
      rw [k, x82_2, if_pos h10]
    · rw [if_neg h10] at k
      have k := ly_revb 1 (c' := (14, [(0, .ref (q 0)), (1, .int v1), (2, .int v2)], [.ref (q 0)], me_w M J)) rfl k
      have k := lz_get (a := (q 0)) (g := 611) (M := me_w M J) (v := .ref (q 14)) rfl (nt_gfR rfl (hq.1 (0, 11, 14) (by decide))) k
      have k := ly_revb 1 (c' := (18, [(0, .ref (q 0)), (1, .int v1), (2, .int v2)], [.int v2, .ref (q 14)], me_w M J)) rfl k
      have k := mx_iald (v := J (q 14) v2.toNatClampNeg) rfl (hq.2.2.1 14 (by omega)) (rfl) k
      have k := ly_revb 2 (c' := (if (J (q 14) v2.toNatClampNeg) = v1 then 23 else 34, [(0, .ref (q 0)), (1, .int v1), (2, .int v2)], [], me_w M J)) rfl k
      by_cases h20 : (J (q 14) v2.toNatClampNeg) = v1
      · rw [if_pos h20] at k
        have k := ly_revb 1 (c' := (24, [(0, .ref (q 0)), (1, .int v1), (2, .int v2)], [.ref (q 0)], me_w M J)) rfl k
        have k := lz_get (a := (q 0)) (g := 610) (M := me_w M J) (v := .ref (q 13)) rfl (nt_gfR rfl (hq.1 (0, 10, 13) (by decide))) k
        have k := ly_revb 1 (c' := (28, [(0, .ref (q 0)), (1, .int v1), (2, .int v2)], [.int v2, .ref (q 13)], me_w M J)) rfl k
        have k := mx_iald (v := J (q 13) v2.toNatClampNeg) rfl (hq.2.2.1 13 (by omega)) (rfl) k
        have k := ly_revb 1 (c' := (if (J (q 13) v2.toNatClampNeg) ≤ 0 then 34 else 32, [(0, .ref (q 0)), (1, .int v1), (2, .int v2)], [], me_w M J)) rfl k
        by_cases h29 : (J (q 13) v2.toNatClampNeg) ≤ 0
        · rw [if_pos h29] at k
          have k := ly_revb 2 (c' := (2, [(2, .int (v2 + (Int32.ofInt 1))), (0, .ref (q 0)), (1, .int v1)], [], me_w M J)) rfl k
          have k := nt_rn_w (a := [(2, .int (v2 + (Int32.ofInt 1))), (0, .ref (q 0)), (1, .int v1)]) (b := [(0, .ref (q 0)), (1, .int v1), (2, .int (v2 + (Int32.ofInt 1)))]) ⟨rfl, rfl, rfl, trivial⟩ rfl k
          have k := ih (v2 + (Int32.ofInt 1)) (lx_dec h10 hc) k
          rw [k, x82_2, if_neg h10, if_pos h20, if_pos h29]
        · rw [if_neg h29] at k
          have k := ly_revb 1 (c' := (33, [(0, .ref (q 0)), (1, .int v1), (2, .int v2)], [.int v2], me_w M J)) rfl k
          have k := lz_ri rfl (by decide) k
          rw [k, x82_2, if_neg h10, if_pos h20, if_neg h29]
      · rw [if_neg h20] at k
        have k := ly_revb 2 (c' := (2, [(2, .int (v2 + (Int32.ofInt 1))), (0, .ref (q 0)), (1, .int v1)], [], me_w M J)) rfl k
        have k := nt_rn_w (a := [(2, .int (v2 + (Int32.ofInt 1))), (0, .ref (q 0)), (1, .int v1)]) (b := [(0, .ref (q 0)), (1, .int v1), (2, .int (v2 + (Int32.ofInt 1)))]) ⟨rfl, rfl, rfl, trivial⟩ rfl k
        have k := ih (v2 + (Int32.ofInt 1)) (lx_dec h10 hc) k
        rw [k, x82_2, if_neg h10, if_neg h20]
def x82 (q : Nat → Nat) (v1 : Int32) (J : Nat → Nat → Int32) : Int32 := (x82_2 q v1 J ((J (q 1) 2).toNatClampNeg) (Int32.ofInt 0))
theorem xt82 {X : nt_X} {d : Nat} {M : nt_M} {o : Option Value × nt_M} {q : Nat → Nat} {v1 : Int32} {J : Nat → Nat → Int32} (hq : xs_Q M q) (k : nt_ev X d 82 [.ref (q 0), .int v1] (me_w M J) o) : o = (some (.int (x82 q v1 J)), me_w M J) := by
  have k : nt_rn X d 82 (0, [(0, .ref (q 0)), (1, .int v1)], [], me_w M J) o := k
  have k := ly_revb 2 (c' := (2, [(2, .int (Int32.ofInt 0)), (0, .ref (q 0)), (1, .int v1)], [], me_w M J)) rfl k
  have k := nt_rn_w (a := [(2, .int (Int32.ofInt 0)), (0, .ref (q 0)), (1, .int v1)]) (b := [(0, .ref (q 0)), (1, .int v1), (2, .int (Int32.ofInt 0))]) ⟨rfl, rfl, rfl, trivial⟩ rfl k
  have k := xt82_2 hq  ((J (q 1) 2).toNatClampNeg) (Int32.ofInt 0) (lx_beg (by decide)) k
  rw [k, x82]
/-! $State.drawForShips -/
def x81_2 (q : Nat → Nat) (v1 : Int32) : Nat → Int32 → (Nat → Nat → Int32) → (Nat → Nat → Int32)
  | 0, v2, J => J
  | c + 1, v2, J => if (J (q 1) 1) ≤ v2 then J
    else if (J (q 10) v2.toNatClampNeg) = (Int32.ofInt 1) then if (x82 q v2 J) = (Int32.ofInt (-1)) then (x81_2 q v1 c (v2 + (Int32.ofInt 1)) J)
        else if v1 ≤ ((((((((J (q 0) 6).toInt64) * 1103515245) + 12345) - ((((J (q 0) 6).toInt64) * 1103515245) + 12345) / 2147483648 * 2147483648).toInt32) / (Int32.ofInt 65536)) - (((((((J (q 0) 6).toInt64) * 1103515245) + 12345) - ((((J (q 0) 6).toInt64) * 1103515245) + 12345) / 2147483648 * 2147483648).toInt32) / (Int32.ofInt 65536)) / (Int32.ofInt 100) * (Int32.ofInt 100)) then (x81_2 q v1 c (v2 + (Int32.ofInt 1)) (nt_u J (q 0) 6 ((((((J (q 0) 6).toInt64) * 1103515245) + 12345) - ((((J (q 0) 6).toInt64) * 1103515245) + 12345) / 2147483648 * 2147483648).toInt32)))
          else if (J (q 13) ((x82 q v2 J).toNatClampNeg)) ≤ (Int32.ofInt 1) then (x81_2 q v1 c (v2 + (Int32.ofInt 1)) (nt_u J (q 0) 6 ((((((J (q 0) 6).toInt64) * 1103515245) + 12345) - ((((J (q 0) 6).toInt64) * 1103515245) + 12345) / 2147483648 * 2147483648).toInt32)))
            else (x81_2 q v1 c (v2 + (Int32.ofInt 1)) (nt_u (nt_u J (q 0) 6 ((((((J (q 0) 6).toInt64) * 1103515245) + 12345) - ((((J (q 0) 6).toInt64) * 1103515245) + 12345) / 2147483648 * 2147483648).toInt32)) (q 13) ((x82 q v2 J).toNatClampNeg) ((J (q 13) ((x82 q v2 J).toNatClampNeg)) - (Int32.ofInt 1))))
      else if (Int32.ofInt (-1)) = (Int32.ofInt (-1)) then (x81_2 q v1 c (v2 + (Int32.ofInt 1)) J)
        else if v1 ≤ ((((((((J (q 0) 6).toInt64) * 1103515245) + 12345) - ((((J (q 0) 6).toInt64) * 1103515245) + 12345) / 2147483648 * 2147483648).toInt32) / (Int32.ofInt 65536)) - (((((((J (q 0) 6).toInt64) * 1103515245) + 12345) - ((((J (q 0) 6).toInt64) * 1103515245) + 12345) / 2147483648 * 2147483648).toInt32) / (Int32.ofInt 65536)) / (Int32.ofInt 100) * (Int32.ofInt 100)) then (x81_2 q v1 c (v2 + (Int32.ofInt 1)) (nt_u J (q 0) 6 ((((((J (q 0) 6).toInt64) * 1103515245) + 12345) - ((((J (q 0) 6).toInt64) * 1103515245) + 12345) / 2147483648 * 2147483648).toInt32)))
          else if (J (q 13) ((Int32.ofInt (-1)).toNatClampNeg)) ≤ (Int32.ofInt 1) then (x81_2 q v1 c (v2 + (Int32.ofInt 1)) (nt_u J (q 0) 6 ((((((J (q 0) 6).toInt64) * 1103515245) + 12345) - ((((J (q 0) 6).toInt64) * 1103515245) + 12345) / 2147483648 * 2147483648).toInt32)))
            else (x81_2 q v1 c (v2 + (Int32.ofInt 1)) (nt_u (nt_u J (q 0) 6 ((((((J (q 0) 6).toInt64) * 1103515245) + 12345) - ((((J (q 0) 6).toInt64) * 1103515245) + 12345) / 2147483648 * 2147483648).toInt32)) (q 13) ((Int32.ofInt (-1)).toNatClampNeg) ((J (q 13) ((Int32.ofInt (-1)).toNatClampNeg)) - (Int32.ofInt 1))))
theorem xt81_2 {X : nt_X} {d : Nat} {M : nt_M} {o : Option Value × nt_M} {q : Nat → Nat} {v1 : Int32} (hq : xs_Q M q) : ∀ (c : Nat) (v2 : Int32) (v3 : Int32) (J : Nat → Nat → Int32), (J (q 1) 1).toInt - v2.toInt ≤ c → nt_rn X d 81 (2, [(0, .ref (q 0)), (1, .int v1), (2, .int v2), (3, .int v3)], [], me_w M J) o → o = (none, me_w M (x81_2 q v1 c v2 J)) := by
  intro c
  induction c with
  | zero =>
    intro v2 v3 J hc k
    have k := ly_revb 2 (c' := (4, [(0, .ref (q 0)), (1, .int v1), (2, .int v2), (3, .int v3)], [.ref (q 0), .int v2], me_w M J)) rfl k
    have k := lz_get (a := (q 0)) (g := 600) (M := me_w M J) (v := .ref (q 1)) rfl (nt_gfR rfl (hq.1 (0, 0, 1) (by decide))) k
    have k := lz_get (a := (q 1)) (g := 801) (M := me_w M J) (v := .int (J (q 1) 1)) rfl (congrArg Value.int (rfl)) k
    have k := ly_revb 1 (c' := (if (J (q 1) 1) ≤ v2 then 100 else 13, [(0, .ref (q 0)), (1, .int v1), (2, .int v2), (3, .int v3)], [], me_w M J)) rfl k
    have h10 : (J (q 1) 1) ≤ v2 := lx_end hc
    rw [if_pos h10] at k
    have k := lz_rv rfl rfl k
    rw [k, x81_2]
  | succ c ih =>
    intro v2 v3 J hc k
    have k := ly_revb 2 (c' := (4, [(0, .ref (q 0)), (1, .int v1), (2, .int v2), (3, .int v3)], [.ref (q 0), .int v2], me_w M J)) rfl k
    have k := lz_get (a := (q 0)) (g := 600) (M := me_w M J) (v := .ref (q 1)) rfl (nt_gfR rfl (hq.1 (0, 0, 1) (by decide))) k
    have k := lz_get (a := (q 1)) (g := 801) (M := me_w M J) (v := .int (J (q 1) 1)) rfl (congrArg Value.int (rfl)) k
    have k := ly_revb 1 (c' := (if (J (q 1) 1) ≤ v2 then 100 else 13, [(0, .ref (q 0)), (1, .int v1), (2, .int v2), (3, .int v3)], [], me_w M J)) rfl k
    by_cases h10 : (J (q 1) 1) ≤ v2
    · rw [if_pos h10] at k
      have k := lz_rv rfl rfl k
      rw [k, x81_2, if_pos h10]
    · rw [if_neg h10] at k
      have k := ly_revb 1 (c' := (14, [(0, .ref (q 0)), (1, .int v1), (2, .int v2), (3, .int v3)], [.ref (q 0)], me_w M J)) rfl k
      have k := lz_get (a := (q 0)) (g := 607) (M := me_w M J) (v := .ref (q 10)) rfl (nt_gfR rfl (hq.1 (0, 7, 10) (by decide))) k
      have k := ly_revb 1 (c' := (18, [(0, .ref (q 0)), (1, .int v1), (2, .int v2), (3, .int v3)], [.int v2, .ref (q 10)], me_w M J)) rfl k
      have k := mx_iald (v := J (q 10) v2.toNatClampNeg) rfl (hq.2.2.1 10 (by omega)) (rfl) k
      have k := ly_revb 2 (c' := (if (J (q 10) v2.toNatClampNeg) = (Int32.ofInt 1) then 23 else 31, [(0, .ref (q 0)), (1, .int v1), (2, .int v2), (3, .int v3)], [], me_w M J)) rfl k
      by_cases h20 : (J (q 10) v2.toNatClampNeg) = (Int32.ofInt 1)
      · rw [if_pos h20] at k
        have k := ly_revb 2 (c' := (25, [(0, .ref (q 0)), (1, .int v1), (2, .int v2), (3, .int v3)], [.int v2, .ref (q 0)], me_w M J)) rfl k
        obtain ⟨d1, o1, ed, kc, k⟩ := lz_c (g := 82) (q := 1) (vs := [.ref (q 0), .int v2]) (rest := []) rfl rfl (by decide) (Or.inr (Or.inl ⟨_, rfl, rfl⟩)) rfl k
        have e1 := xt82 hq kc
        subst e1
        have k : nt_rn X _ 81 (28, [(0, .ref (q 0)), (1, .int v1), (2, .int v2), (3, .int v3)], [.int (x82 q v2 J)], me_w M J) _ := k
        have k := ly_revb 5 (c' := (if (x82 q v2 J) = (Int32.ofInt (-1)) then 94 else 38, [(3, .int (x82 q v2 J)), (0, .ref (q 0)), (1, .int v1), (2, .int v2)], [], me_w M J)) rfl k
        by_cases h35 : (x82 q v2 J) = (Int32.ofInt (-1))
        · rw [if_pos h35] at k
          have k := ly_revb 2 (c' := (2, [(2, .int (v2 + (Int32.ofInt 1))), (3, .int (x82 q v2 J)), (0, .ref (q 0)), (1, .int v1)], [], me_w M J)) rfl k
          have k := nt_rn_w (a := [(2, .int (v2 + (Int32.ofInt 1))), (3, .int (x82 q v2 J)), (0, .ref (q 0)), (1, .int v1)]) (b := [(0, .ref (q 0)), (1, .int v1), (2, .int (v2 + (Int32.ofInt 1))), (3, .int (x82 q v2 J))]) ⟨rfl, rfl, rfl, rfl, trivial⟩ rfl k
          have k := ih (v2 + (Int32.ofInt 1)) (x82 q v2 J) J (lx_dec h10 hc) k
          rw [k, x81_2, if_neg h10, if_pos h20, if_pos h35]
        · rw [if_neg h35] at k
          have k := ly_revb 2 (c' := (40, [(3, .int (x82 q v2 J)), (0, .ref (q 0)), (1, .int v1), (2, .int v2)], [.ref (q 0), .ref (q 0)], me_w M J)) rfl k
          have k := lz_get (a := (q 0)) (g := 606) (M := me_w M J) (v := .int (J (q 0) 6)) rfl (congrArg Value.int (rfl)) k
          have k := ly_revb 6 (c' := (55, [(3, .int (x82 q v2 J)), (0, .ref (q 0)), (1, .int v1), (2, .int v2)], [.long 2147483648, .long ((((J (q 0) 6).toInt64) * 1103515245) + 12345), .ref (q 0)], me_w M J)) rfl k
          obtain ⟨hd55, k⟩ := mx_lrem rfl k
          have k := ly_revb 1 (c' := (57, [(3, .int (x82 q v2 J)), (0, .ref (q 0)), (1, .int v1), (2, .int v2)], [.int ((((((J (q 0) 6).toInt64) * 1103515245) + 12345) - ((((J (q 0) 6).toInt64) * 1103515245) + 12345) / 2147483648 * 2147483648).toInt32), .ref (q 0)], me_w M J)) rfl k
          have k := me_put rfl (by decide) k
          have k : nt_rn X _ 81 (60, [(3, .int (x82 q v2 J)), (0, .ref (q 0)), (1, .int v1), (2, .int v2)], [], me_w M (nt_u J (q 0) 6 ((((((J (q 0) 6).toInt64) * 1103515245) + 12345) - ((((J (q 0) 6).toInt64) * 1103515245) + 12345) / 2147483648 * 2147483648).toInt32))) _ := k
          have k := ly_revb 1 (c' := (61, [(3, .int (x82 q v2 J)), (0, .ref (q 0)), (1, .int v1), (2, .int v2)], [.ref (q 0)], me_w M (nt_u J (q 0) 6 ((((((J (q 0) 6).toInt64) * 1103515245) + 12345) - ((((J (q 0) 6).toInt64) * 1103515245) + 12345) / 2147483648 * 2147483648).toInt32)))) rfl k
          have k := lz_get (a := (q 0)) (g := 606) (M := me_w M (nt_u J (q 0) 6 ((((((J (q 0) 6).toInt64) * 1103515245) + 12345) - ((((J (q 0) 6).toInt64) * 1103515245) + 12345) / 2147483648 * 2147483648).toInt32))) (v := .int ((((((J (q 0) 6).toInt64) * 1103515245) + 12345) - ((((J (q 0) 6).toInt64) * 1103515245) + 12345) / 2147483648 * 2147483648).toInt32)) rfl (congrArg Value.int (mu_s)) k
          have k := ly_revb 1 (c' := (66, [(3, .int (x82 q v2 J)), (0, .ref (q 0)), (1, .int v1), (2, .int v2)], [.int (Int32.ofInt 65536), .int ((((((J (q 0) 6).toInt64) * 1103515245) + 12345) - ((((J (q 0) 6).toInt64) * 1103515245) + 12345) / 2147483648 * 2147483648).toInt32)], me_w M (nt_u J (q 0) 6 ((((((J (q 0) 6).toInt64) * 1103515245) + 12345) - ((((J (q 0) 6).toInt64) * 1103515245) + 12345) / 2147483648 * 2147483648).toInt32)))) rfl k
          obtain ⟨hd66, k⟩ := mx_idiv rfl k
          have k := ly_revb 1 (c' := (69, [(3, .int (x82 q v2 J)), (0, .ref (q 0)), (1, .int v1), (2, .int v2)], [.int (Int32.ofInt 100), .int (((((((J (q 0) 6).toInt64) * 1103515245) + 12345) - ((((J (q 0) 6).toInt64) * 1103515245) + 12345) / 2147483648 * 2147483648).toInt32) / (Int32.ofInt 65536))], me_w M (nt_u J (q 0) 6 ((((((J (q 0) 6).toInt64) * 1103515245) + 12345) - ((((J (q 0) 6).toInt64) * 1103515245) + 12345) / 2147483648 * 2147483648).toInt32)))) rfl k
          obtain ⟨hd69, k⟩ := mx_irem rfl k
          have k := ly_revb 2 (c' := (if v1 ≤ ((((((((J (q 0) 6).toInt64) * 1103515245) + 12345) - ((((J (q 0) 6).toInt64) * 1103515245) + 12345) / 2147483648 * 2147483648).toInt32) / (Int32.ofInt 65536)) - (((((((J (q 0) 6).toInt64) * 1103515245) + 12345) - ((((J (q 0) 6).toInt64) * 1103515245) + 12345) / 2147483648 * 2147483648).toInt32) / (Int32.ofInt 65536)) / (Int32.ofInt 100) * (Int32.ofInt 100)) then 94 else 74, [(3, .int (x82 q v2 J)), (0, .ref (q 0)), (1, .int v1), (2, .int v2)], [], me_w M (nt_u J (q 0) 6 ((((((J (q 0) 6).toInt64) * 1103515245) + 12345) - ((((J (q 0) 6).toInt64) * 1103515245) + 12345) / 2147483648 * 2147483648).toInt32)))) rfl k
          by_cases h71 : v1 ≤ ((((((((J (q 0) 6).toInt64) * 1103515245) + 12345) - ((((J (q 0) 6).toInt64) * 1103515245) + 12345) / 2147483648 * 2147483648).toInt32) / (Int32.ofInt 65536)) - (((((((J (q 0) 6).toInt64) * 1103515245) + 12345) - ((((J (q 0) 6).toInt64) * 1103515245) + 12345) / 2147483648 * 2147483648).toInt32) / (Int32.ofInt 65536)) / (Int32.ofInt 100) * (Int32.ofInt 100))
          · rw [if_pos h71] at k
            have k := ly_revb 2 (c' := (2, [(2, .int (v2 + (Int32.ofInt 1))), (3, .int (x82 q v2 J)), (0, .ref (q 0)), (1, .int v1)], [], me_w M (nt_u J (q 0) 6 ((((((J (q 0) 6).toInt64) * 1103515245) + 12345) - ((((J (q 0) 6).toInt64) * 1103515245) + 12345) / 2147483648 * 2147483648).toInt32)))) rfl k
            have k := nt_rn_w (a := [(2, .int (v2 + (Int32.ofInt 1))), (3, .int (x82 q v2 J)), (0, .ref (q 0)), (1, .int v1)]) (b := [(0, .ref (q 0)), (1, .int v1), (2, .int (v2 + (Int32.ofInt 1))), (3, .int (x82 q v2 J))]) ⟨rfl, rfl, rfl, rfl, trivial⟩ rfl k
            have k := ih (v2 + (Int32.ofInt 1)) (x82 q v2 J) (nt_u J (q 0) 6 ((((((J (q 0) 6).toInt64) * 1103515245) + 12345) - ((((J (q 0) 6).toInt64) * 1103515245) + 12345) / 2147483648 * 2147483648).toInt32)) (by rw [show (nt_u J (q 0) 6 ((((((J (q 0) 6).toInt64) * 1103515245) + 12345) - ((((J (q 0) 6).toInt64) * 1103515245) + 12345) / 2147483648 * 2147483648).toInt32)) (q 1) 1 = J (q 1) 1 from mu_j (hq.2.1 1 0 (by omega) (by omega) (by decide))]; exact lx_dec h10 hc) k
            rw [k, x81_2, if_neg h10, if_pos h20, if_neg h35, if_pos h71]
          · rw [if_neg h71] at k
            have k := ly_revb 1 (c' := (75, [(3, .int (x82 q v2 J)), (0, .ref (q 0)), (1, .int v1), (2, .int v2)], [.ref (q 0)], me_w M (nt_u J (q 0) 6 ((((((J (q 0) 6).toInt64) * 1103515245) + 12345) - ((((J (q 0) 6).toInt64) * 1103515245) + 12345) / 2147483648 * 2147483648).toInt32)))) rfl k
            have k := lz_get (a := (q 0)) (g := 610) (M := me_w M (nt_u J (q 0) 6 ((((((J (q 0) 6).toInt64) * 1103515245) + 12345) - ((((J (q 0) 6).toInt64) * 1103515245) + 12345) / 2147483648 * 2147483648).toInt32))) (v := .ref (q 13)) rfl (nt_gfR rfl (hq.1 (0, 10, 13) (by decide))) k
            have k := ly_revb 1 (c' := (79, [(3, .int (x82 q v2 J)), (0, .ref (q 0)), (1, .int v1), (2, .int v2)], [.int (x82 q v2 J), .ref (q 13)], me_w M (nt_u J (q 0) 6 ((((((J (q 0) 6).toInt64) * 1103515245) + 12345) - ((((J (q 0) 6).toInt64) * 1103515245) + 12345) / 2147483648 * 2147483648).toInt32)))) rfl k
            have k := mx_iald (v := J (q 13) ((x82 q v2 J).toNatClampNeg)) rfl (hq.2.2.1 13 (by omega)) (mu_j (hq.2.1 13 0 (by omega) (by omega) (by decide))) k
            have k := ly_revb 2 (c' := (if (J (q 13) ((x82 q v2 J).toNatClampNeg)) ≤ (Int32.ofInt 1) then 94 else 84, [(3, .int (x82 q v2 J)), (0, .ref (q 0)), (1, .int v1), (2, .int v2)], [], me_w M (nt_u J (q 0) 6 ((((((J (q 0) 6).toInt64) * 1103515245) + 12345) - ((((J (q 0) 6).toInt64) * 1103515245) + 12345) / 2147483648 * 2147483648).toInt32)))) rfl k
            by_cases h81 : (J (q 13) ((x82 q v2 J).toNatClampNeg)) ≤ (Int32.ofInt 1)
            · rw [if_pos h81] at k
              have k := ly_revb 2 (c' := (2, [(2, .int (v2 + (Int32.ofInt 1))), (3, .int (x82 q v2 J)), (0, .ref (q 0)), (1, .int v1)], [], me_w M (nt_u J (q 0) 6 ((((((J (q 0) 6).toInt64) * 1103515245) + 12345) - ((((J (q 0) 6).toInt64) * 1103515245) + 12345) / 2147483648 * 2147483648).toInt32)))) rfl k
              have k := nt_rn_w (a := [(2, .int (v2 + (Int32.ofInt 1))), (3, .int (x82 q v2 J)), (0, .ref (q 0)), (1, .int v1)]) (b := [(0, .ref (q 0)), (1, .int v1), (2, .int (v2 + (Int32.ofInt 1))), (3, .int (x82 q v2 J))]) ⟨rfl, rfl, rfl, rfl, trivial⟩ rfl k
              have k := ih (v2 + (Int32.ofInt 1)) (x82 q v2 J) (nt_u J (q 0) 6 ((((((J (q 0) 6).toInt64) * 1103515245) + 12345) - ((((J (q 0) 6).toInt64) * 1103515245) + 12345) / 2147483648 * 2147483648).toInt32)) (by rw [show (nt_u J (q 0) 6 ((((((J (q 0) 6).toInt64) * 1103515245) + 12345) - ((((J (q 0) 6).toInt64) * 1103515245) + 12345) / 2147483648 * 2147483648).toInt32)) (q 1) 1 = J (q 1) 1 from mu_j (hq.2.1 1 0 (by omega) (by omega) (by decide))]; exact lx_dec h10 hc) k
              rw [k, x81_2, if_neg h10, if_pos h20, if_neg h35, if_neg h71, if_pos h81]
            · rw [if_neg h81] at k
              have k := ly_revb 1 (c' := (85, [(3, .int (x82 q v2 J)), (0, .ref (q 0)), (1, .int v1), (2, .int v2)], [.ref (q 0)], me_w M (nt_u J (q 0) 6 ((((((J (q 0) 6).toInt64) * 1103515245) + 12345) - ((((J (q 0) 6).toInt64) * 1103515245) + 12345) / 2147483648 * 2147483648).toInt32)))) rfl k
              have k := lz_get (a := (q 0)) (g := 610) (M := me_w M (nt_u J (q 0) 6 ((((((J (q 0) 6).toInt64) * 1103515245) + 12345) - ((((J (q 0) 6).toInt64) * 1103515245) + 12345) / 2147483648 * 2147483648).toInt32))) (v := .ref (q 13)) rfl (nt_gfR rfl (hq.1 (0, 10, 13) (by decide))) k
              have k := ly_revb 2 (c' := (90, [(3, .int (x82 q v2 J)), (0, .ref (q 0)), (1, .int v1), (2, .int v2)], [.int (x82 q v2 J), .ref (q 13), .int (x82 q v2 J), .ref (q 13)], me_w M (nt_u J (q 0) 6 ((((((J (q 0) 6).toInt64) * 1103515245) + 12345) - ((((J (q 0) 6).toInt64) * 1103515245) + 12345) / 2147483648 * 2147483648).toInt32)))) rfl k
              have k := mx_iald (v := J (q 13) ((x82 q v2 J).toNatClampNeg)) rfl (hq.2.2.1 13 (by omega)) (mu_j (hq.2.1 13 0 (by omega) (by omega) (by decide))) k
              have k := ly_revb 2 (c' := (93, [(3, .int (x82 q v2 J)), (0, .ref (q 0)), (1, .int v1), (2, .int v2)], [.int ((J (q 13) ((x82 q v2 J).toNatClampNeg)) - (Int32.ofInt 1)), .int (x82 q v2 J), .ref (q 13)], me_w M (nt_u J (q 0) 6 ((((((J (q 0) 6).toInt64) * 1103515245) + 12345) - ((((J (q 0) 6).toInt64) * 1103515245) + 12345) / 2147483648 * 2147483648).toInt32)))) rfl k
              have k := mx_iast (q := (x82 q v2 J).toNatClampNeg) rfl rfl k
              have k : nt_rn X _ 81 (94, [(3, .int (x82 q v2 J)), (0, .ref (q 0)), (1, .int v1), (2, .int v2)], [], me_w M (nt_u (nt_u J (q 0) 6 ((((((J (q 0) 6).toInt64) * 1103515245) + 12345) - ((((J (q 0) 6).toInt64) * 1103515245) + 12345) / 2147483648 * 2147483648).toInt32)) (q 13) ((x82 q v2 J).toNatClampNeg) ((J (q 13) ((x82 q v2 J).toNatClampNeg)) - (Int32.ofInt 1)))) _ := k
              have k := ly_revb 2 (c' := (2, [(2, .int (v2 + (Int32.ofInt 1))), (3, .int (x82 q v2 J)), (0, .ref (q 0)), (1, .int v1)], [], me_w M (nt_u (nt_u J (q 0) 6 ((((((J (q 0) 6).toInt64) * 1103515245) + 12345) - ((((J (q 0) 6).toInt64) * 1103515245) + 12345) / 2147483648 * 2147483648).toInt32)) (q 13) ((x82 q v2 J).toNatClampNeg) ((J (q 13) ((x82 q v2 J).toNatClampNeg)) - (Int32.ofInt 1))))) rfl k
              have k := nt_rn_w (a := [(2, .int (v2 + (Int32.ofInt 1))), (3, .int (x82 q v2 J)), (0, .ref (q 0)), (1, .int v1)]) (b := [(0, .ref (q 0)), (1, .int v1), (2, .int (v2 + (Int32.ofInt 1))), (3, .int (x82 q v2 J))]) ⟨rfl, rfl, rfl, rfl, trivial⟩ rfl k
              have k := ih (v2 + (Int32.ofInt 1)) (x82 q v2 J) (nt_u (nt_u J (q 0) 6 ((((((J (q 0) 6).toInt64) * 1103515245) + 12345) - ((((J (q 0) 6).toInt64) * 1103515245) + 12345) / 2147483648 * 2147483648).toInt32)) (q 13) ((x82 q v2 J).toNatClampNeg) ((J (q 13) ((x82 q v2 J).toNatClampNeg)) - (Int32.ofInt 1))) (by rw [show (nt_u (nt_u J (q 0) 6 ((((((J (q 0) 6).toInt64) * 1103515245) + 12345) - ((((J (q 0) 6).toInt64) * 1103515245) + 12345) / 2147483648 * 2147483648).toInt32)) (q 13) ((x82 q v2 J).toNatClampNeg) ((J (q 13) ((x82 q v2 J).toNatClampNeg)) - (Int32.ofInt 1))) (q 1) 1 = J (q 1) 1 from (mu_j (hq.2.1 1 13 (by omega) (by omega) (by decide))).trans (mu_j (hq.2.1 1 0 (by omega) (by omega) (by decide)))]; exact lx_dec h10 hc) k
              rw [k, x81_2, if_neg h10, if_pos h20, if_neg h35, if_neg h71, if_neg h81]
      · rw [if_neg h20] at k
        have k := ly_revb 5 (c' := (if (Int32.ofInt (-1)) = (Int32.ofInt (-1)) then 94 else 38, [(3, .int (Int32.ofInt (-1))), (0, .ref (q 0)), (1, .int v1), (2, .int v2)], [], me_w M J)) rfl k
        by_cases h35 : (Int32.ofInt (-1)) = (Int32.ofInt (-1))
        · rw [if_pos h35] at k
          have k := ly_revb 2 (c' := (2, [(2, .int (v2 + (Int32.ofInt 1))), (3, .int (Int32.ofInt (-1))), (0, .ref (q 0)), (1, .int v1)], [], me_w M J)) rfl k
          have k := nt_rn_w (a := [(2, .int (v2 + (Int32.ofInt 1))), (3, .int (Int32.ofInt (-1))), (0, .ref (q 0)), (1, .int v1)]) (b := [(0, .ref (q 0)), (1, .int v1), (2, .int (v2 + (Int32.ofInt 1))), (3, .int (Int32.ofInt (-1)))]) ⟨rfl, rfl, rfl, rfl, trivial⟩ rfl k
          have k := ih (v2 + (Int32.ofInt 1)) (Int32.ofInt (-1)) J (lx_dec h10 hc) k
          rw [k, x81_2, if_neg h10, if_neg h20, if_pos h35]
        · rw [if_neg h35] at k
          have k := ly_revb 2 (c' := (40, [(3, .int (Int32.ofInt (-1))), (0, .ref (q 0)), (1, .int v1), (2, .int v2)], [.ref (q 0), .ref (q 0)], me_w M J)) rfl k
          have k := lz_get (a := (q 0)) (g := 606) (M := me_w M J) (v := .int (J (q 0) 6)) rfl (congrArg Value.int (rfl)) k
          have k := ly_revb 6 (c' := (55, [(3, .int (Int32.ofInt (-1))), (0, .ref (q 0)), (1, .int v1), (2, .int v2)], [.long 2147483648, .long ((((J (q 0) 6).toInt64) * 1103515245) + 12345), .ref (q 0)], me_w M J)) rfl k
          obtain ⟨hd55, k⟩ := mx_lrem rfl k
          have k := ly_revb 1 (c' := (57, [(3, .int (Int32.ofInt (-1))), (0, .ref (q 0)), (1, .int v1), (2, .int v2)], [.int ((((((J (q 0) 6).toInt64) * 1103515245) + 12345) - ((((J (q 0) 6).toInt64) * 1103515245) + 12345) / 2147483648 * 2147483648).toInt32), .ref (q 0)], me_w M J)) rfl k
          have k := me_put rfl (by decide) k
          have k : nt_rn X _ 81 (60, [(3, .int (Int32.ofInt (-1))), (0, .ref (q 0)), (1, .int v1), (2, .int v2)], [], me_w M (nt_u J (q 0) 6 ((((((J (q 0) 6).toInt64) * 1103515245) + 12345) - ((((J (q 0) 6).toInt64) * 1103515245) + 12345) / 2147483648 * 2147483648).toInt32))) _ := k
          have k := ly_revb 1 (c' := (61, [(3, .int (Int32.ofInt (-1))), (0, .ref (q 0)), (1, .int v1), (2, .int v2)], [.ref (q 0)], me_w M (nt_u J (q 0) 6 ((((((J (q 0) 6).toInt64) * 1103515245) + 12345) - ((((J (q 0) 6).toInt64) * 1103515245) + 12345) / 2147483648 * 2147483648).toInt32)))) rfl k
          have k := lz_get (a := (q 0)) (g := 606) (M := me_w M (nt_u J (q 0) 6 ((((((J (q 0) 6).toInt64) * 1103515245) + 12345) - ((((J (q 0) 6).toInt64) * 1103515245) + 12345) / 2147483648 * 2147483648).toInt32))) (v := .int ((((((J (q 0) 6).toInt64) * 1103515245) + 12345) - ((((J (q 0) 6).toInt64) * 1103515245) + 12345) / 2147483648 * 2147483648).toInt32)) rfl (congrArg Value.int (mu_s)) k
          have k := ly_revb 1 (c' := (66, [(3, .int (Int32.ofInt (-1))), (0, .ref (q 0)), (1, .int v1), (2, .int v2)], [.int (Int32.ofInt 65536), .int ((((((J (q 0) 6).toInt64) * 1103515245) + 12345) - ((((J (q 0) 6).toInt64) * 1103515245) + 12345) / 2147483648 * 2147483648).toInt32)], me_w M (nt_u J (q 0) 6 ((((((J (q 0) 6).toInt64) * 1103515245) + 12345) - ((((J (q 0) 6).toInt64) * 1103515245) + 12345) / 2147483648 * 2147483648).toInt32)))) rfl k
          obtain ⟨hd66, k⟩ := mx_idiv rfl k
          have k := ly_revb 1 (c' := (69, [(3, .int (Int32.ofInt (-1))), (0, .ref (q 0)), (1, .int v1), (2, .int v2)], [.int (Int32.ofInt 100), .int (((((((J (q 0) 6).toInt64) * 1103515245) + 12345) - ((((J (q 0) 6).toInt64) * 1103515245) + 12345) / 2147483648 * 2147483648).toInt32) / (Int32.ofInt 65536))], me_w M (nt_u J (q 0) 6 ((((((J (q 0) 6).toInt64) * 1103515245) + 12345) - ((((J (q 0) 6).toInt64) * 1103515245) + 12345) / 2147483648 * 2147483648).toInt32)))) rfl k
          obtain ⟨hd69, k⟩ := mx_irem rfl k
          have k := ly_revb 2 (c' := (if v1 ≤ ((((((((J (q 0) 6).toInt64) * 1103515245) + 12345) - ((((J (q 0) 6).toInt64) * 1103515245) + 12345) / 2147483648 * 2147483648).toInt32) / (Int32.ofInt 65536)) - (((((((J (q 0) 6).toInt64) * 1103515245) + 12345) - ((((J (q 0) 6).toInt64) * 1103515245) + 12345) / 2147483648 * 2147483648).toInt32) / (Int32.ofInt 65536)) / (Int32.ofInt 100) * (Int32.ofInt 100)) then 94 else 74, [(3, .int (Int32.ofInt (-1))), (0, .ref (q 0)), (1, .int v1), (2, .int v2)], [], me_w M (nt_u J (q 0) 6 ((((((J (q 0) 6).toInt64) * 1103515245) + 12345) - ((((J (q 0) 6).toInt64) * 1103515245) + 12345) / 2147483648 * 2147483648).toInt32)))) rfl k
          by_cases h71 : v1 ≤ ((((((((J (q 0) 6).toInt64) * 1103515245) + 12345) - ((((J (q 0) 6).toInt64) * 1103515245) + 12345) / 2147483648 * 2147483648).toInt32) / (Int32.ofInt 65536)) - (((((((J (q 0) 6).toInt64) * 1103515245) + 12345) - ((((J (q 0) 6).toInt64) * 1103515245) + 12345) / 2147483648 * 2147483648).toInt32) / (Int32.ofInt 65536)) / (Int32.ofInt 100) * (Int32.ofInt 100))
          · rw [if_pos h71] at k
            have k := ly_revb 2 (c' := (2, [(2, .int (v2 + (Int32.ofInt 1))), (3, .int (Int32.ofInt (-1))), (0, .ref (q 0)), (1, .int v1)], [], me_w M (nt_u J (q 0) 6 ((((((J (q 0) 6).toInt64) * 1103515245) + 12345) - ((((J (q 0) 6).toInt64) * 1103515245) + 12345) / 2147483648 * 2147483648).toInt32)))) rfl k
            have k := nt_rn_w (a := [(2, .int (v2 + (Int32.ofInt 1))), (3, .int (Int32.ofInt (-1))), (0, .ref (q 0)), (1, .int v1)]) (b := [(0, .ref (q 0)), (1, .int v1), (2, .int (v2 + (Int32.ofInt 1))), (3, .int (Int32.ofInt (-1)))]) ⟨rfl, rfl, rfl, rfl, trivial⟩ rfl k
            have k := ih (v2 + (Int32.ofInt 1)) (Int32.ofInt (-1)) (nt_u J (q 0) 6 ((((((J (q 0) 6).toInt64) * 1103515245) + 12345) - ((((J (q 0) 6).toInt64) * 1103515245) + 12345) / 2147483648 * 2147483648).toInt32)) (by rw [show (nt_u J (q 0) 6 ((((((J (q 0) 6).toInt64) * 1103515245) + 12345) - ((((J (q 0) 6).toInt64) * 1103515245) + 12345) / 2147483648 * 2147483648).toInt32)) (q 1) 1 = J (q 1) 1 from mu_j (hq.2.1 1 0 (by omega) (by omega) (by decide))]; exact lx_dec h10 hc) k
            rw [k, x81_2, if_neg h10, if_neg h20, if_neg h35, if_pos h71]
          · rw [if_neg h71] at k
            have k := ly_revb 1 (c' := (75, [(3, .int (Int32.ofInt (-1))), (0, .ref (q 0)), (1, .int v1), (2, .int v2)], [.ref (q 0)], me_w M (nt_u J (q 0) 6 ((((((J (q 0) 6).toInt64) * 1103515245) + 12345) - ((((J (q 0) 6).toInt64) * 1103515245) + 12345) / 2147483648 * 2147483648).toInt32)))) rfl k
            have k := lz_get (a := (q 0)) (g := 610) (M := me_w M (nt_u J (q 0) 6 ((((((J (q 0) 6).toInt64) * 1103515245) + 12345) - ((((J (q 0) 6).toInt64) * 1103515245) + 12345) / 2147483648 * 2147483648).toInt32))) (v := .ref (q 13)) rfl (nt_gfR rfl (hq.1 (0, 10, 13) (by decide))) k
            have k := ly_revb 1 (c' := (79, [(3, .int (Int32.ofInt (-1))), (0, .ref (q 0)), (1, .int v1), (2, .int v2)], [.int (Int32.ofInt (-1)), .ref (q 13)], me_w M (nt_u J (q 0) 6 ((((((J (q 0) 6).toInt64) * 1103515245) + 12345) - ((((J (q 0) 6).toInt64) * 1103515245) + 12345) / 2147483648 * 2147483648).toInt32)))) rfl k
            have k := mx_iald (v := J (q 13) ((Int32.ofInt (-1)).toNatClampNeg)) rfl (hq.2.2.1 13 (by omega)) (mu_j (hq.2.1 13 0 (by omega) (by omega) (by decide))) k
            have k := ly_revb 2 (c' := (if (J (q 13) ((Int32.ofInt (-1)).toNatClampNeg)) ≤ (Int32.ofInt 1) then 94 else 84, [(3, .int (Int32.ofInt (-1))), (0, .ref (q 0)), (1, .int v1), (2, .int v2)], [], me_w M (nt_u J (q 0) 6 ((((((J (q 0) 6).toInt64) * 1103515245) + 12345) - ((((J (q 0) 6).toInt64) * 1103515245) + 12345) / 2147483648 * 2147483648).toInt32)))) rfl k
            by_cases h81 : (J (q 13) ((Int32.ofInt (-1)).toNatClampNeg)) ≤ (Int32.ofInt 1)
            · rw [if_pos h81] at k
              have k := ly_revb 2 (c' := (2, [(2, .int (v2 + (Int32.ofInt 1))), (3, .int (Int32.ofInt (-1))), (0, .ref (q 0)), (1, .int v1)], [], me_w M (nt_u J (q 0) 6 ((((((J (q 0) 6).toInt64) * 1103515245) + 12345) - ((((J (q 0) 6).toInt64) * 1103515245) + 12345) / 2147483648 * 2147483648).toInt32)))) rfl k
              have k := nt_rn_w (a := [(2, .int (v2 + (Int32.ofInt 1))), (3, .int (Int32.ofInt (-1))), (0, .ref (q 0)), (1, .int v1)]) (b := [(0, .ref (q 0)), (1, .int v1), (2, .int (v2 + (Int32.ofInt 1))), (3, .int (Int32.ofInt (-1)))]) ⟨rfl, rfl, rfl, rfl, trivial⟩ rfl k
              have k := ih (v2 + (Int32.ofInt 1)) (Int32.ofInt (-1)) (nt_u J (q 0) 6 ((((((J (q 0) 6).toInt64) * 1103515245) + 12345) - ((((J (q 0) 6).toInt64) * 1103515245) + 12345) / 2147483648 * 2147483648).toInt32)) (by rw [show (nt_u J (q 0) 6 ((((((J (q 0) 6).toInt64) * 1103515245) + 12345) - ((((J (q 0) 6).toInt64) * 1103515245) + 12345) / 2147483648 * 2147483648).toInt32)) (q 1) 1 = J (q 1) 1 from mu_j (hq.2.1 1 0 (by omega) (by omega) (by decide))]; exact lx_dec h10 hc) k
              rw [k, x81_2, if_neg h10, if_neg h20, if_neg h35, if_neg h71, if_pos h81]
            · rw [if_neg h81] at k
              have k := ly_revb 1 (c' := (85, [(3, .int (Int32.ofInt (-1))), (0, .ref (q 0)), (1, .int v1), (2, .int v2)], [.ref (q 0)], me_w M (nt_u J (q 0) 6 ((((((J (q 0) 6).toInt64) * 1103515245) + 12345) - ((((J (q 0) 6).toInt64) * 1103515245) + 12345) / 2147483648 * 2147483648).toInt32)))) rfl k
              have k := lz_get (a := (q 0)) (g := 610) (M := me_w M (nt_u J (q 0) 6 ((((((J (q 0) 6).toInt64) * 1103515245) + 12345) - ((((J (q 0) 6).toInt64) * 1103515245) + 12345) / 2147483648 * 2147483648).toInt32))) (v := .ref (q 13)) rfl (nt_gfR rfl (hq.1 (0, 10, 13) (by decide))) k
              have k := ly_revb 2 (c' := (90, [(3, .int (Int32.ofInt (-1))), (0, .ref (q 0)), (1, .int v1), (2, .int v2)], [.int (Int32.ofInt (-1)), .ref (q 13), .int (Int32.ofInt (-1)), .ref (q 13)], me_w M (nt_u J (q 0) 6 ((((((J (q 0) 6).toInt64) * 1103515245) + 12345) - ((((J (q 0) 6).toInt64) * 1103515245) + 12345) / 2147483648 * 2147483648).toInt32)))) rfl k
              have k := mx_iald (v := J (q 13) ((Int32.ofInt (-1)).toNatClampNeg)) rfl (hq.2.2.1 13 (by omega)) (mu_j (hq.2.1 13 0 (by omega) (by omega) (by decide))) k
              have k := ly_revb 2 (c' := (93, [(3, .int (Int32.ofInt (-1))), (0, .ref (q 0)), (1, .int v1), (2, .int v2)], [.int ((J (q 13) ((Int32.ofInt (-1)).toNatClampNeg)) - (Int32.ofInt 1)), .int (Int32.ofInt (-1)), .ref (q 13)], me_w M (nt_u J (q 0) 6 ((((((J (q 0) 6).toInt64) * 1103515245) + 12345) - ((((J (q 0) 6).toInt64) * 1103515245) + 12345) / 2147483648 * 2147483648).toInt32)))) rfl k
              have k := mx_iast (q := (Int32.ofInt (-1)).toNatClampNeg) rfl rfl k
              have k : nt_rn X _ 81 (94, [(3, .int (Int32.ofInt (-1))), (0, .ref (q 0)), (1, .int v1), (2, .int v2)], [], me_w M (nt_u (nt_u J (q 0) 6 ((((((J (q 0) 6).toInt64) * 1103515245) + 12345) - ((((J (q 0) 6).toInt64) * 1103515245) + 12345) / 2147483648 * 2147483648).toInt32)) (q 13) ((Int32.ofInt (-1)).toNatClampNeg) ((J (q 13) ((Int32.ofInt (-1)).toNatClampNeg)) - (Int32.ofInt 1)))) _ := k
              have k := ly_revb 2 (c' := (2, [(2, .int (v2 + (Int32.ofInt 1))), (3, .int (Int32.ofInt (-1))), (0, .ref (q 0)), (1, .int v1)], [], me_w M (nt_u (nt_u J (q 0) 6 ((((((J (q 0) 6).toInt64) * 1103515245) + 12345) - ((((J (q 0) 6).toInt64) * 1103515245) + 12345) / 2147483648 * 2147483648).toInt32)) (q 13) ((Int32.ofInt (-1)).toNatClampNeg) ((J (q 13) ((Int32.ofInt (-1)).toNatClampNeg)) - (Int32.ofInt 1))))) rfl k
              have k := nt_rn_w (a := [(2, .int (v2 + (Int32.ofInt 1))), (3, .int (Int32.ofInt (-1))), (0, .ref (q 0)), (1, .int v1)]) (b := [(0, .ref (q 0)), (1, .int v1), (2, .int (v2 + (Int32.ofInt 1))), (3, .int (Int32.ofInt (-1)))]) ⟨rfl, rfl, rfl, rfl, trivial⟩ rfl k
              have k := ih (v2 + (Int32.ofInt 1)) (Int32.ofInt (-1)) (nt_u (nt_u J (q 0) 6 ((((((J (q 0) 6).toInt64) * 1103515245) + 12345) - ((((J (q 0) 6).toInt64) * 1103515245) + 12345) / 2147483648 * 2147483648).toInt32)) (q 13) ((Int32.ofInt (-1)).toNatClampNeg) ((J (q 13) ((Int32.ofInt (-1)).toNatClampNeg)) - (Int32.ofInt 1))) (by rw [show (nt_u (nt_u J (q 0) 6 ((((((J (q 0) 6).toInt64) * 1103515245) + 12345) - ((((J (q 0) 6).toInt64) * 1103515245) + 12345) / 2147483648 * 2147483648).toInt32)) (q 13) ((Int32.ofInt (-1)).toNatClampNeg) ((J (q 13) ((Int32.ofInt (-1)).toNatClampNeg)) - (Int32.ofInt 1))) (q 1) 1 = J (q 1) 1 from (mu_j (hq.2.1 1 13 (by omega) (by omega) (by decide))).trans (mu_j (hq.2.1 1 0 (by omega) (by omega) (by decide)))]; exact lx_dec h10 hc) k
              rw [k, x81_2, if_neg h10, if_neg h20, if_neg h35, if_neg h71, if_neg h81]
def x81 (q : Nat → Nat) (v1 : Int32) (J : Nat → Nat → Int32) : (Nat → Nat → Int32) := (x81_2 q v1 ((J (q 1) 1).toNatClampNeg) (Int32.ofInt 0) J)
theorem xt81 {X : nt_X} {d : Nat} {M : nt_M} {o : Option Value × nt_M} {q : Nat → Nat} {v1 : Int32} {J : Nat → Nat → Int32} (hq : xs_Q M q) (k : nt_ev X d 81 [.ref (q 0), .int v1] (me_w M J) o) : o = (none, me_w M (x81 q v1 J)) := by
  have k : nt_rn X d 81 (0, [(0, .ref (q 0)), (1, .int v1)], [], me_w M J) o := k
  have k := ly_revb 2 (c' := (2, [(2, .int (Int32.ofInt 0)), (0, .ref (q 0)), (1, .int v1)], [], me_w M J)) rfl k
  have k := nt_rn_w (a := [(2, .int (Int32.ofInt 0)), (0, .ref (q 0)), (1, .int v1)]) (b := [(0, .ref (q 0)), (1, .int v1), (2, .int (Int32.ofInt 0)), (3, .int (Int32.ofInt 0))]) ⟨rfl, rfl, rfl, trivial⟩ rfl k
  have k := xt81_2 hq  ((J (q 1) 1).toNatClampNeg) (Int32.ofInt 0) (Int32.ofInt 0) J (lx_beg (by decide)) k
  rw [k, x81]
theorem x81_2_frJ {q : Nat → Nat} {v1 : Int32} {b : Nat} : ∀ (c : Nat) (v2 : Int32) (J : Nat → Nat → Int32), b ≠ q 0 → b ≠ q 13 → x81_2 q v1 c v2 J b = J b := by
  intro c
  induction c with
  | zero =>
    intro v2 J n0 n1
    rw [x81_2]
    all_goals first | (dsimp only; exact (show J b = J b from rfl)) | exact (show J b = J b from rfl)
  | succ c ih =>
    intro v2 J n0 n1
    rw [x81_2]
    by_cases h : (J (q 1) 1) ≤ v2
    · rw [if_pos h]
      all_goals first | (dsimp only; exact (show J b = J b from rfl)) | exact (show J b = J b from rfl)
    · rw [if_neg h]
      by_cases h : (J (q 10) v2.toNatClampNeg) = (Int32.ofInt 1)
      · rw [if_pos h]
        by_cases h : (x82 q v2 J) = (Int32.ofInt (-1))
        · rw [if_pos h]
          exact (ih _ _ n0 n1).trans (rfl)
        · rw [if_neg h]
          by_cases h : v1 ≤ ((((((((J (q 0) 6).toInt64) * 1103515245) + 12345) - ((((J (q 0) 6).toInt64) * 1103515245) + 12345) / 2147483648 * 2147483648).toInt32) / (Int32.ofInt 65536)) - (((((((J (q 0) 6).toInt64) * 1103515245) + 12345) - ((((J (q 0) 6).toInt64) * 1103515245) + 12345) / 2147483648 * 2147483648).toInt32) / (Int32.ofInt 65536)) / (Int32.ofInt 100) * (Int32.ofInt 100))
          · rw [if_pos h]
            exact (ih _ _ n0 n1).trans (mu_o n0)
          · rw [if_neg h]
            by_cases h : (J (q 13) ((x82 q v2 J).toNatClampNeg)) ≤ (Int32.ofInt 1)
            · rw [if_pos h]
              exact (ih _ _ n0 n1).trans (mu_o n0)
            · rw [if_neg h]
              exact (ih _ _ n0 n1).trans ((mu_o n1).trans (mu_o n0))
      · rw [if_neg h]
        by_cases h : (Int32.ofInt (-1)) = (Int32.ofInt (-1))
        · rw [if_pos h]
          exact (ih _ _ n0 n1).trans (rfl)
        · rw [if_neg h]
          by_cases h : v1 ≤ ((((((((J (q 0) 6).toInt64) * 1103515245) + 12345) - ((((J (q 0) 6).toInt64) * 1103515245) + 12345) / 2147483648 * 2147483648).toInt32) / (Int32.ofInt 65536)) - (((((((J (q 0) 6).toInt64) * 1103515245) + 12345) - ((((J (q 0) 6).toInt64) * 1103515245) + 12345) / 2147483648 * 2147483648).toInt32) / (Int32.ofInt 65536)) / (Int32.ofInt 100) * (Int32.ofInt 100))
          · rw [if_pos h]
            exact (ih _ _ n0 n1).trans (mu_o n0)
          · rw [if_neg h]
            by_cases h : (J (q 13) ((Int32.ofInt (-1)).toNatClampNeg)) ≤ (Int32.ofInt 1)
            · rw [if_pos h]
              exact (ih _ _ n0 n1).trans (mu_o n0)
            · rw [if_neg h]
              exact (ih _ _ n0 n1).trans ((mu_o n1).trans (mu_o n0))
theorem x81_frJ {q : Nat → Nat} {v1 : Int32} {J : Nat → Nat → Int32} {b : Nat} (n0 : b ≠ q 0) (n1 : b ≠ q 13) : x81 q v1 J b = J b := by
  unfold x81
  exact (x81_2_frJ _ _ _ n0 n1).trans (rfl)
/-! java/lang/Integer.bitCount -/
def x236 (v0 : Int32) : Int32 := ((((((((v0 - (((v0.toUInt32 >>> ((Int32.ofInt 1).toUInt32 &&& Int32.toUInt32 31)).toInt32) &&& (Int32.ofInt 1431655765))) &&& (Int32.ofInt 858993459)) + ((((v0 - (((v0.toUInt32 >>> ((Int32.ofInt 1).toUInt32 &&& Int32.toUInt32 31)).toInt32) &&& (Int32.ofInt 1431655765))).toUInt32 >>> ((Int32.ofInt 2).toUInt32 &&& Int32.toUInt32 31)).toInt32) &&& (Int32.ofInt 858993459))) + (((((v0 - (((v0.toUInt32 >>> ((Int32.ofInt 1).toUInt32 &&& Int32.toUInt32 31)).toInt32) &&& (Int32.ofInt 1431655765))) &&& (Int32.ofInt 858993459)) + ((((v0 - (((v0.toUInt32 >>> ((Int32.ofInt 1).toUInt32 &&& Int32.toUInt32 31)).toInt32) &&& (Int32.ofInt 1431655765))).toUInt32 >>> ((Int32.ofInt 2).toUInt32 &&& Int32.toUInt32 31)).toInt32) &&& (Int32.ofInt 858993459))).toUInt32 >>> ((Int32.ofInt 4).toUInt32 &&& Int32.toUInt32 31)).toInt32)) &&& (Int32.ofInt 252645135)) + (((((((v0 - (((v0.toUInt32 >>> ((Int32.ofInt 1).toUInt32 &&& Int32.toUInt32 31)).toInt32) &&& (Int32.ofInt 1431655765))) &&& (Int32.ofInt 858993459)) + ((((v0 - (((v0.toUInt32 >>> ((Int32.ofInt 1).toUInt32 &&& Int32.toUInt32 31)).toInt32) &&& (Int32.ofInt 1431655765))).toUInt32 >>> ((Int32.ofInt 2).toUInt32 &&& Int32.toUInt32 31)).toInt32) &&& (Int32.ofInt 858993459))) + (((((v0 - (((v0.toUInt32 >>> ((Int32.ofInt 1).toUInt32 &&& Int32.toUInt32 31)).toInt32) &&& (Int32.ofInt 1431655765))) &&& (Int32.ofInt 858993459)) + ((((v0 - (((v0.toUInt32 >>> ((Int32.ofInt 1).toUInt32 &&& Int32.toUInt32 31)).toInt32) &&& (Int32.ofInt 1431655765))).toUInt32 >>> ((Int32.ofInt 2).toUInt32 &&& Int32.toUInt32 31)).toInt32) &&& (Int32.ofInt 858993459))).toUInt32 >>> ((Int32.ofInt 4).toUInt32 &&& Int32.toUInt32 31)).toInt32)) &&& (Int32.ofInt 252645135)).toUInt32 >>> ((Int32.ofInt 8).toUInt32 &&& Int32.toUInt32 31)).toInt32)) + ((((((((v0 - (((v0.toUInt32 >>> ((Int32.ofInt 1).toUInt32 &&& Int32.toUInt32 31)).toInt32) &&& (Int32.ofInt 1431655765))) &&& (Int32.ofInt 858993459)) + ((((v0 - (((v0.toUInt32 >>> ((Int32.ofInt 1).toUInt32 &&& Int32.toUInt32 31)).toInt32) &&& (Int32.ofInt 1431655765))).toUInt32 >>> ((Int32.ofInt 2).toUInt32 &&& Int32.toUInt32 31)).toInt32) &&& (Int32.ofInt 858993459))) + (((((v0 - (((v0.toUInt32 >>> ((Int32.ofInt 1).toUInt32 &&& Int32.toUInt32 31)).toInt32) &&& (Int32.ofInt 1431655765))) &&& (Int32.ofInt 858993459)) + ((((v0 - (((v0.toUInt32 >>> ((Int32.ofInt 1).toUInt32 &&& Int32.toUInt32 31)).toInt32) &&& (Int32.ofInt 1431655765))).toUInt32 >>> ((Int32.ofInt 2).toUInt32 &&& Int32.toUInt32 31)).toInt32) &&& (Int32.ofInt 858993459))).toUInt32 >>> ((Int32.ofInt 4).toUInt32 &&& Int32.toUInt32 31)).toInt32)) &&& (Int32.ofInt 252645135)) + (((((((v0 - (((v0.toUInt32 >>> ((Int32.ofInt 1).toUInt32 &&& Int32.toUInt32 31)).toInt32) &&& (Int32.ofInt 1431655765))) &&& (Int32.ofInt 858993459)) + ((((v0 - (((v0.toUInt32 >>> ((Int32.ofInt 1).toUInt32 &&& Int32.toUInt32 31)).toInt32) &&& (Int32.ofInt 1431655765))).toUInt32 >>> ((Int32.ofInt 2).toUInt32 &&& Int32.toUInt32 31)).toInt32) &&& (Int32.ofInt 858993459))) + (((((v0 - (((v0.toUInt32 >>> ((Int32.ofInt 1).toUInt32 &&& Int32.toUInt32 31)).toInt32) &&& (Int32.ofInt 1431655765))) &&& (Int32.ofInt 858993459)) + ((((v0 - (((v0.toUInt32 >>> ((Int32.ofInt 1).toUInt32 &&& Int32.toUInt32 31)).toInt32) &&& (Int32.ofInt 1431655765))).toUInt32 >>> ((Int32.ofInt 2).toUInt32 &&& Int32.toUInt32 31)).toInt32) &&& (Int32.ofInt 858993459))).toUInt32 >>> ((Int32.ofInt 4).toUInt32 &&& Int32.toUInt32 31)).toInt32)) &&& (Int32.ofInt 252645135)).toUInt32 >>> ((Int32.ofInt 8).toUInt32 &&& Int32.toUInt32 31)).toInt32)).toUInt32 >>> ((Int32.ofInt 16).toUInt32 &&& Int32.toUInt32 31)).toInt32)) &&& (Int32.ofInt 63))
theorem xt236 {X : nt_X} {d : Nat} {M : nt_M} {o : Option Value × nt_M} {v0 : Int32} {J : Nat → Nat → Int32}  (k : nt_ev X d 236 [.int v0] (me_w M J) o) : o = (some (.int (x236 v0)), me_w M J) := by
  have k : nt_rn X d 236 (0, [(0, .int v0)], [], me_w M J) o := k
  have k := ly_revb 41 (c' := (52, [(0, .int (((((((v0 - (((v0.toUInt32 >>> ((Int32.ofInt 1).toUInt32 &&& Int32.toUInt32 31)).toInt32) &&& (Int32.ofInt 1431655765))) &&& (Int32.ofInt 858993459)) + ((((v0 - (((v0.toUInt32 >>> ((Int32.ofInt 1).toUInt32 &&& Int32.toUInt32 31)).toInt32) &&& (Int32.ofInt 1431655765))).toUInt32 >>> ((Int32.ofInt 2).toUInt32 &&& Int32.toUInt32 31)).toInt32) &&& (Int32.ofInt 858993459))) + (((((v0 - (((v0.toUInt32 >>> ((Int32.ofInt 1).toUInt32 &&& Int32.toUInt32 31)).toInt32) &&& (Int32.ofInt 1431655765))) &&& (Int32.ofInt 858993459)) + ((((v0 - (((v0.toUInt32 >>> ((Int32.ofInt 1).toUInt32 &&& Int32.toUInt32 31)).toInt32) &&& (Int32.ofInt 1431655765))).toUInt32 >>> ((Int32.ofInt 2).toUInt32 &&& Int32.toUInt32 31)).toInt32) &&& (Int32.ofInt 858993459))).toUInt32 >>> ((Int32.ofInt 4).toUInt32 &&& Int32.toUInt32 31)).toInt32)) &&& (Int32.ofInt 252645135)) + (((((((v0 - (((v0.toUInt32 >>> ((Int32.ofInt 1).toUInt32 &&& Int32.toUInt32 31)).toInt32) &&& (Int32.ofInt 1431655765))) &&& (Int32.ofInt 858993459)) + ((((v0 - (((v0.toUInt32 >>> ((Int32.ofInt 1).toUInt32 &&& Int32.toUInt32 31)).toInt32) &&& (Int32.ofInt 1431655765))).toUInt32 >>> ((Int32.ofInt 2).toUInt32 &&& Int32.toUInt32 31)).toInt32) &&& (Int32.ofInt 858993459))) + (((((v0 - (((v0.toUInt32 >>> ((Int32.ofInt 1).toUInt32 &&& Int32.toUInt32 31)).toInt32) &&& (Int32.ofInt 1431655765))) &&& (Int32.ofInt 858993459)) + ((((v0 - (((v0.toUInt32 >>> ((Int32.ofInt 1).toUInt32 &&& Int32.toUInt32 31)).toInt32) &&& (Int32.ofInt 1431655765))).toUInt32 >>> ((Int32.ofInt 2).toUInt32 &&& Int32.toUInt32 31)).toInt32) &&& (Int32.ofInt 858993459))).toUInt32 >>> ((Int32.ofInt 4).toUInt32 &&& Int32.toUInt32 31)).toInt32)) &&& (Int32.ofInt 252645135)).toUInt32 >>> ((Int32.ofInt 8).toUInt32 &&& Int32.toUInt32 31)).toInt32)) + ((((((((v0 - (((v0.toUInt32 >>> ((Int32.ofInt 1).toUInt32 &&& Int32.toUInt32 31)).toInt32) &&& (Int32.ofInt 1431655765))) &&& (Int32.ofInt 858993459)) + ((((v0 - (((v0.toUInt32 >>> ((Int32.ofInt 1).toUInt32 &&& Int32.toUInt32 31)).toInt32) &&& (Int32.ofInt 1431655765))).toUInt32 >>> ((Int32.ofInt 2).toUInt32 &&& Int32.toUInt32 31)).toInt32) &&& (Int32.ofInt 858993459))) + (((((v0 - (((v0.toUInt32 >>> ((Int32.ofInt 1).toUInt32 &&& Int32.toUInt32 31)).toInt32) &&& (Int32.ofInt 1431655765))) &&& (Int32.ofInt 858993459)) + ((((v0 - (((v0.toUInt32 >>> ((Int32.ofInt 1).toUInt32 &&& Int32.toUInt32 31)).toInt32) &&& (Int32.ofInt 1431655765))).toUInt32 >>> ((Int32.ofInt 2).toUInt32 &&& Int32.toUInt32 31)).toInt32) &&& (Int32.ofInt 858993459))).toUInt32 >>> ((Int32.ofInt 4).toUInt32 &&& Int32.toUInt32 31)).toInt32)) &&& (Int32.ofInt 252645135)) + (((((((v0 - (((v0.toUInt32 >>> ((Int32.ofInt 1).toUInt32 &&& Int32.toUInt32 31)).toInt32) &&& (Int32.ofInt 1431655765))) &&& (Int32.ofInt 858993459)) + ((((v0 - (((v0.toUInt32 >>> ((Int32.ofInt 1).toUInt32 &&& Int32.toUInt32 31)).toInt32) &&& (Int32.ofInt 1431655765))).toUInt32 >>> ((Int32.ofInt 2).toUInt32 &&& Int32.toUInt32 31)).toInt32) &&& (Int32.ofInt 858993459))) + (((((v0 - (((v0.toUInt32 >>> ((Int32.ofInt 1).toUInt32 &&& Int32.toUInt32 31)).toInt32) &&& (Int32.ofInt 1431655765))) &&& (Int32.ofInt 858993459)) + ((((v0 - (((v0.toUInt32 >>> ((Int32.ofInt 1).toUInt32 &&& Int32.toUInt32 31)).toInt32) &&& (Int32.ofInt 1431655765))).toUInt32 >>> ((Int32.ofInt 2).toUInt32 &&& Int32.toUInt32 31)).toInt32) &&& (Int32.ofInt 858993459))).toUInt32 >>> ((Int32.ofInt 4).toUInt32 &&& Int32.toUInt32 31)).toInt32)) &&& (Int32.ofInt 252645135)).toUInt32 >>> ((Int32.ofInt 8).toUInt32 &&& Int32.toUInt32 31)).toInt32)).toUInt32 >>> ((Int32.ofInt 16).toUInt32 &&& Int32.toUInt32 31)).toInt32)))], [.int ((((((((v0 - (((v0.toUInt32 >>> ((Int32.ofInt 1).toUInt32 &&& Int32.toUInt32 31)).toInt32) &&& (Int32.ofInt 1431655765))) &&& (Int32.ofInt 858993459)) + ((((v0 - (((v0.toUInt32 >>> ((Int32.ofInt 1).toUInt32 &&& Int32.toUInt32 31)).toInt32) &&& (Int32.ofInt 1431655765))).toUInt32 >>> ((Int32.ofInt 2).toUInt32 &&& Int32.toUInt32 31)).toInt32) &&& (Int32.ofInt 858993459))) + (((((v0 - (((v0.toUInt32 >>> ((Int32.ofInt 1).toUInt32 &&& Int32.toUInt32 31)).toInt32) &&& (Int32.ofInt 1431655765))) &&& (Int32.ofInt 858993459)) + ((((v0 - (((v0.toUInt32 >>> ((Int32.ofInt 1).toUInt32 &&& Int32.toUInt32 31)).toInt32) &&& (Int32.ofInt 1431655765))).toUInt32 >>> ((Int32.ofInt 2).toUInt32 &&& Int32.toUInt32 31)).toInt32) &&& (Int32.ofInt 858993459))).toUInt32 >>> ((Int32.ofInt 4).toUInt32 &&& Int32.toUInt32 31)).toInt32)) &&& (Int32.ofInt 252645135)) + (((((((v0 - (((v0.toUInt32 >>> ((Int32.ofInt 1).toUInt32 &&& Int32.toUInt32 31)).toInt32) &&& (Int32.ofInt 1431655765))) &&& (Int32.ofInt 858993459)) + ((((v0 - (((v0.toUInt32 >>> ((Int32.ofInt 1).toUInt32 &&& Int32.toUInt32 31)).toInt32) &&& (Int32.ofInt 1431655765))).toUInt32 >>> ((Int32.ofInt 2).toUInt32 &&& Int32.toUInt32 31)).toInt32) &&& (Int32.ofInt 858993459))) + (((((v0 - (((v0.toUInt32 >>> ((Int32.ofInt 1).toUInt32 &&& Int32.toUInt32 31)).toInt32) &&& (Int32.ofInt 1431655765))) &&& (Int32.ofInt 858993459)) + ((((v0 - (((v0.toUInt32 >>> ((Int32.ofInt 1).toUInt32 &&& Int32.toUInt32 31)).toInt32) &&& (Int32.ofInt 1431655765))).toUInt32 >>> ((Int32.ofInt 2).toUInt32 &&& Int32.toUInt32 31)).toInt32) &&& (Int32.ofInt 858993459))).toUInt32 >>> ((Int32.ofInt 4).toUInt32 &&& Int32.toUInt32 31)).toInt32)) &&& (Int32.ofInt 252645135)).toUInt32 >>> ((Int32.ofInt 8).toUInt32 &&& Int32.toUInt32 31)).toInt32)) + ((((((((v0 - (((v0.toUInt32 >>> ((Int32.ofInt 1).toUInt32 &&& Int32.toUInt32 31)).toInt32) &&& (Int32.ofInt 1431655765))) &&& (Int32.ofInt 858993459)) + ((((v0 - (((v0.toUInt32 >>> ((Int32.ofInt 1).toUInt32 &&& Int32.toUInt32 31)).toInt32) &&& (Int32.ofInt 1431655765))).toUInt32 >>> ((Int32.ofInt 2).toUInt32 &&& Int32.toUInt32 31)).toInt32) &&& (Int32.ofInt 858993459))) + (((((v0 - (((v0.toUInt32 >>> ((Int32.ofInt 1).toUInt32 &&& Int32.toUInt32 31)).toInt32) &&& (Int32.ofInt 1431655765))) &&& (Int32.ofInt 858993459)) + ((((v0 - (((v0.toUInt32 >>> ((Int32.ofInt 1).toUInt32 &&& Int32.toUInt32 31)).toInt32) &&& (Int32.ofInt 1431655765))).toUInt32 >>> ((Int32.ofInt 2).toUInt32 &&& Int32.toUInt32 31)).toInt32) &&& (Int32.ofInt 858993459))).toUInt32 >>> ((Int32.ofInt 4).toUInt32 &&& Int32.toUInt32 31)).toInt32)) &&& (Int32.ofInt 252645135)) + (((((((v0 - (((v0.toUInt32 >>> ((Int32.ofInt 1).toUInt32 &&& Int32.toUInt32 31)).toInt32) &&& (Int32.ofInt 1431655765))) &&& (Int32.ofInt 858993459)) + ((((v0 - (((v0.toUInt32 >>> ((Int32.ofInt 1).toUInt32 &&& Int32.toUInt32 31)).toInt32) &&& (Int32.ofInt 1431655765))).toUInt32 >>> ((Int32.ofInt 2).toUInt32 &&& Int32.toUInt32 31)).toInt32) &&& (Int32.ofInt 858993459))) + (((((v0 - (((v0.toUInt32 >>> ((Int32.ofInt 1).toUInt32 &&& Int32.toUInt32 31)).toInt32) &&& (Int32.ofInt 1431655765))) &&& (Int32.ofInt 858993459)) + ((((v0 - (((v0.toUInt32 >>> ((Int32.ofInt 1).toUInt32 &&& Int32.toUInt32 31)).toInt32) &&& (Int32.ofInt 1431655765))).toUInt32 >>> ((Int32.ofInt 2).toUInt32 &&& Int32.toUInt32 31)).toInt32) &&& (Int32.ofInt 858993459))).toUInt32 >>> ((Int32.ofInt 4).toUInt32 &&& Int32.toUInt32 31)).toInt32)) &&& (Int32.ofInt 252645135)).toUInt32 >>> ((Int32.ofInt 8).toUInt32 &&& Int32.toUInt32 31)).toInt32)).toUInt32 >>> ((Int32.ofInt 16).toUInt32 &&& Int32.toUInt32 31)).toInt32)) &&& (Int32.ofInt 63))], me_w M J)) rfl k
  have k := lz_ri rfl (by decide) k
  rw [k, x236]
/-! .years -/
def x125_114 (p : Nat → Nat) (sp : Nat) (ln : Nat) (v1 : Int32) (v2 : Int32) (v3 : Int32) (v4 : Int32) (v5 : Int32) (v6 : Int32) (v7 : Int32) (v9 : Int32) : Nat → Int32 → (Nat → Nat → Int32) → (Nat → Nat → Int64) → (Nat → Nat → Int32) × (Nat → Nat → Int64)
  | 0, v10, J, L => (J, L)
  | c + 1, v10, J, L => if v3 ≤ v10 then (J, L)
    else if (Int32.ofInt 99) < (J (p 48) 2) then (J, L)
      else (x125_114 p sp ln v1 v2 v3 v4 v5 v6 v7 v9 c (v10 + (Int32.ofInt 1)) (x81 (fun i => p (48 + i)) v4 ((x1 p (fun i => p (48 + i)) sp ln J L).1)) ((x1 p (fun i => p (48 + i)) sp ln J L).2))
theorem xt125_114 {X : nt_X} {d : Nat} {M : nt_M} {o : Option Value × nt_M} {p : Nat → Nat} {sp : Nat} {ln : Nat} {ru : Nat} {v1 : Int32} {v2 : Int32} {v3 : Int32} {v4 : Int32} {v5 : Int32} {v6 : Int32} {v7 : Int32} {v8 : Int32} {v9 : Int32} (hp : xs_P M p) (hn : xs_Q M (fun i => p (31 + i))) (hm : xs_Q M (fun i => p (48 + i))) (hk : xs_N M (fun i => p (48 + i))) (hs : xs_S M p ru sp ln) (h0 : ¬ v1 < 0) (hr : nt_R M (p 23) v1.toNatClampNeg = some ru) : ∀ (c : Nat) (v10 : Int32) (J : Nat → Nat → Int32) (L : Nat → Nat → Int64), (¬ J (p 16) 4 ≤ v1 ∧ v3.toInt - v10.toInt ≤ c) → nt_rn X d 125 (114, [(0, .ref (p 16)), (1, .int v1), (2, .int v2), (3, .int v3), (4, .int v4), (5, .int v5), (6, .int v6), (7, .int v7), (8, .int v8), (9, .int v9), (10, .int v10)], [], me_w (lw M L) J) o → ∃ (w10 : Int32), nt_rn X d 125 (163, [(0, .ref (p 16)), (1, .int v1), (2, .int v2), (3, .int v3), (4, .int v4), (5, .int v5), (6, .int v6), (7, .int v7), (8, .int v8), (9, .int v9), (10, .int w10)], [], me_w (lw M ((x125_114 p sp ln v1 v2 v3 v4 v5 v6 v7 v9 c v10 J L).2)) ((x125_114 p sp ln v1 v2 v3 v4 v5 v6 v7 v9 c v10 J L).1)) o := by
  intro c
  induction c with
  | zero =>
    intro v10 J L hc k
    have k := ly_revb 3 (c' := (if v3 ≤ v10 then 163 else 120, [(0, .ref (p 16)), (1, .int v1), (2, .int v2), (3, .int v3), (4, .int v4), (5, .int v5), (6, .int v6), (7, .int v7), (8, .int v8), (9, .int v9), (10, .int v10)], [], me_w (lw M L) J)) rfl k
    have h117 : v3 ≤ v10 := lx_end hc.2
    rw [if_pos h117] at k
    have k := nt_rn_w (a := [(0, .ref (p 16)), (1, .int v1), (2, .int v2), (3, .int v3), (4, .int v4), (5, .int v5), (6, .int v6), (7, .int v7), (8, .int v8), (9, .int v9), (10, .int v10)]) (b := [(0, .ref (p 16)), (1, .int v1), (2, .int v2), (3, .int v3), (4, .int v4), (5, .int v5), (6, .int v6), (7, .int v7), (8, .int v8), (9, .int v9), (10, .int v10)]) ⟨rfl, rfl, rfl, rfl, rfl, rfl, rfl, rfl, rfl, rfl, rfl, trivial⟩ rfl k
    rw [x125_114]
    exact ⟨_, k⟩
  | succ c ih =>
    intro v10 J L hc k
    have k := ly_revb 3 (c' := (if v3 ≤ v10 then 163 else 120, [(0, .ref (p 16)), (1, .int v1), (2, .int v2), (3, .int v3), (4, .int v4), (5, .int v5), (6, .int v6), (7, .int v7), (8, .int v8), (9, .int v9), (10, .int v10)], [], me_w (lw M L) J)) rfl k
    by_cases h117 : v3 ≤ v10
    · rw [if_pos h117] at k
      have k := nt_rn_w (a := [(0, .ref (p 16)), (1, .int v1), (2, .int v2), (3, .int v3), (4, .int v4), (5, .int v5), (6, .int v6), (7, .int v7), (8, .int v8), (9, .int v9), (10, .int v10)]) (b := [(0, .ref (p 16)), (1, .int v1), (2, .int v2), (3, .int v3), (4, .int v4), (5, .int v5), (6, .int v6), (7, .int v7), (8, .int v8), (9, .int v9), (10, .int v10)]) ⟨rfl, rfl, rfl, rfl, rfl, rfl, rfl, rfl, rfl, rfl, rfl, trivial⟩ rfl k
      rw [x125_114, if_pos h117]
      exact ⟨_, k⟩
    · rw [if_neg h117] at k
      have k := ly_revb 1 (c' := (121, [(0, .ref (p 16)), (1, .int v1), (2, .int v2), (3, .int v3), (4, .int v4), (5, .int v5), (6, .int v6), (7, .int v7), (8, .int v8), (9, .int v9), (10, .int v10)], [.ref (p 16)], me_w (lw M L) J)) rfl k
      have k := lz_get (a := (p 16)) (g := 1008) (M := me_w (lw M L) J) (v := .ref (p 48)) rfl (nt_gfR rfl (hp.1 (16, 8, 48) (by decide))) k
      have k := lz_get (a := (p 48)) (g := 602) (M := me_w (lw M L) J) (v := .int (J (p 48) 2)) rfl (congrArg Value.int (rfl)) k
      have k := ly_revb 2 (c' := (if (Int32.ofInt 99) < (J (p 48) 2) then 163 else 132, [(0, .ref (p 16)), (1, .int v1), (2, .int v2), (3, .int v3), (4, .int v4), (5, .int v5), (6, .int v6), (7, .int v7), (8, .int v8), (9, .int v9), (10, .int v10)], [], me_w (lw M L) J)) rfl k
      by_cases h129 : (Int32.ofInt 99) < (J (p 48) 2)
      · rw [if_pos h129] at k
        have k := nt_rn_w (a := [(0, .ref (p 16)), (1, .int v1), (2, .int v2), (3, .int v3), (4, .int v4), (5, .int v5), (6, .int v6), (7, .int v7), (8, .int v8), (9, .int v9), (10, .int v10)]) (b := [(0, .ref (p 16)), (1, .int v1), (2, .int v2), (3, .int v3), (4, .int v4), (5, .int v5), (6, .int v6), (7, .int v7), (8, .int v8), (9, .int v9), (10, .int v10)]) ⟨rfl, rfl, rfl, rfl, rfl, rfl, rfl, rfl, rfl, rfl, rfl, trivial⟩ rfl k
        rw [x125_114, if_neg h117, if_pos h129]
        exact ⟨_, k⟩
      · rw [if_neg h129] at k
        have k := ly_revb 1 (c' := (133, [(0, .ref (p 16)), (1, .int v1), (2, .int v2), (3, .int v3), (4, .int v4), (5, .int v5), (6, .int v6), (7, .int v7), (8, .int v8), (9, .int v9), (10, .int v10)], [.ref (p 16)], me_w (lw M L) J)) rfl k
        have k := lz_get (a := (p 16)) (g := 1005) (M := me_w (lw M L) J) (v := .ref (p 24)) rfl (nt_gfR rfl (hp.1 (16, 5, 24) (by decide))) k
        have k := ly_revb 1 (c' := (137, [(0, .ref (p 16)), (1, .int v1), (2, .int v2), (3, .int v3), (4, .int v4), (5, .int v5), (6, .int v6), (7, .int v7), (8, .int v8), (9, .int v9), (10, .int v10)], [.ref (p 16), .ref (p 24)], me_w (lw M L) J)) rfl k
        have k := lz_get (a := (p 16)) (g := 1008) (M := me_w (lw M L) J) (v := .ref (p 48)) rfl (nt_gfR rfl (hp.1 (16, 8, 48) (by decide))) k
        have k := ly_revb 2 (c' := (142, [(0, .ref (p 16)), (1, .int v1), (2, .int v2), (3, .int v3), (4, .int v4), (5, .int v5), (6, .int v6), (7, .int v7), (8, .int v8), (9, .int v9), (10, .int v10)], [.int v1, .ref (p 16), .ref (p 48), .ref (p 24)], me_w (lw M L) J)) rfl k
        obtain ⟨d1, o1, ed, kc, k⟩ := lz_c (g := 112) (q := 1) (vs := [.ref (p 16), .int v1]) (rest := [.ref (p 48), .ref (p 24)]) rfl rfl (by decide) (Or.inr (Or.inl ⟨_, rfl, rfl⟩)) rfl k
        have e1 := xr112 (M := lw M L) (xs_lp hp) h0 hc.1 hr kc
        subst e1
        have k : nt_rn X _ 125 (145, [(0, .ref (p 16)), (1, .int v1), (2, .int v2), (3, .int v3), (4, .int v4), (5, .int v5), (6, .int v6), (7, .int v7), (8, .int v8), (9, .int v9), (10, .int v10)], [.ref ru, .ref (p 48), .ref (p 24)], me_w (lw M L) J) _ := k
        obtain ⟨d1, o1, ed, kc, k⟩ := lz_c (g := 1) (q := 1) (vs := [.ref (p 24), .ref (p 48), .ref ru]) (rest := []) rfl rfl (by decide) (Or.inr (Or.inl ⟨_, rfl, rfl⟩)) rfl k
        have e1 := xt1 hp hm (xs_x48 hp) hs kc
        subst e1
        have k : nt_rn X _ 125 (148, [(0, .ref (p 16)), (1, .int v1), (2, .int v2), (3, .int v3), (4, .int v4), (5, .int v5), (6, .int v6), (7, .int v7), (8, .int v8), (9, .int v9), (10, .int v10)], [], me_w (lw M ((x1 p (fun i => p (48 + i)) sp ln J L).2)) ((x1 p (fun i => p (48 + i)) sp ln J L).1)) _ := k
        have k := ly_revb 1 (c' := (149, [(0, .ref (p 16)), (1, .int v1), (2, .int v2), (3, .int v3), (4, .int v4), (5, .int v5), (6, .int v6), (7, .int v7), (8, .int v8), (9, .int v9), (10, .int v10)], [.ref (p 16)], me_w (lw M ((x1 p (fun i => p (48 + i)) sp ln J L).2)) ((x1 p (fun i => p (48 + i)) sp ln J L).1))) rfl k
        have k := lz_get (a := (p 16)) (g := 1008) (M := me_w (lw M ((x1 p (fun i => p (48 + i)) sp ln J L).2)) ((x1 p (fun i => p (48 + i)) sp ln J L).1)) (v := .ref (p 48)) rfl (nt_gfR rfl (hp.1 (16, 8, 48) (by decide))) k
        have k := ly_revb 1 (c' := (154, [(0, .ref (p 16)), (1, .int v1), (2, .int v2), (3, .int v3), (4, .int v4), (5, .int v5), (6, .int v6), (7, .int v7), (8, .int v8), (9, .int v9), (10, .int v10)], [.int v4, .ref (p 48)], me_w (lw M ((x1 p (fun i => p (48 + i)) sp ln J L).2)) ((x1 p (fun i => p (48 + i)) sp ln J L).1))) rfl k
        obtain ⟨d1, o1, ed, kc, k⟩ := lz_c (g := 81) (q := 1) (vs := [.ref (p 48), .int v4]) (rest := []) rfl rfl (by decide) (Or.inr (Or.inl ⟨_, rfl, rfl⟩)) rfl k
        have e1 := xt81 (xs_lq hm) kc
        subst e1
        have k : nt_rn X _ 125 (157, [(0, .ref (p 16)), (1, .int v1), (2, .int v2), (3, .int v3), (4, .int v4), (5, .int v5), (6, .int v6), (7, .int v7), (8, .int v8), (9, .int v9), (10, .int v10)], [], me_w (lw M ((x1 p (fun i => p (48 + i)) sp ln J L).2)) (x81 (fun i => p (48 + i)) v4 ((x1 p (fun i => p (48 + i)) sp ln J L).1))) _ := k
        have k := ly_revb 2 (c' := (114, [(10, .int (v10 + (Int32.ofInt 1))), (0, .ref (p 16)), (1, .int v1), (2, .int v2), (3, .int v3), (4, .int v4), (5, .int v5), (6, .int v6), (7, .int v7), (8, .int v8), (9, .int v9)], [], me_w (lw M ((x1 p (fun i => p (48 + i)) sp ln J L).2)) (x81 (fun i => p (48 + i)) v4 ((x1 p (fun i => p (48 + i)) sp ln J L).1)))) rfl k
        have k := nt_rn_w (a := [(10, .int (v10 + (Int32.ofInt 1))), (0, .ref (p 16)), (1, .int v1), (2, .int v2), (3, .int v3), (4, .int v4), (5, .int v5), (6, .int v6), (7, .int v7), (8, .int v8), (9, .int v9)]) (b := [(0, .ref (p 16)), (1, .int v1), (2, .int v2), (3, .int v3), (4, .int v4), (5, .int v5), (6, .int v6), (7, .int v7), (8, .int v8), (9, .int v9), (10, .int (v10 + (Int32.ofInt 1)))]) ⟨rfl, rfl, rfl, rfl, rfl, rfl, rfl, rfl, rfl, rfl, rfl, trivial⟩ rfl k
        have k := ih (v10 + (Int32.ofInt 1)) (x81 (fun i => p (48 + i)) v4 ((x1 p (fun i => p (48 + i)) sp ln J L).1)) ((x1 p (fun i => p (48 + i)) sp ln J L).2) (⟨by rw [show (x81 (fun i => p (48 + i)) v4 ((x1 p (fun i => p (48 + i)) sp ln J L).1)) (p 16) 4 = J (p 16) 4 from (congrFun (x81_frJ  (hp.2.1 16 48 (by omega) (by omega) (by decide)) (hp.2.1 16 61 (by omega) (by omega) (by decide))) 4).trans (congrFun (x1_frJ  (hp.2.1 16 25 (by omega) (by omega) (by decide)) (hp.2.1 16 48 (by omega) (by omega) (by decide)) (hp.2.1 16 58 (by omega) (by omega) (by decide)) (hp.2.1 16 59 (by omega) (by omega) (by decide)) (hp.2.1 16 60 (by omega) (by omega) (by decide)) (hp.2.1 16 61 (by omega) (by omega) (by decide)) (hp.2.1 16 62 (by omega) (by omega) (by decide)) (hp.2.1 16 63 (by omega) (by omega) (by decide)) (hp.2.1 16 64 (by omega) (by omega) (by decide))) 4)]; exact hc.1, lx_dec h117 hc.2⟩) k
        rw [x125_114, if_neg h117, if_neg h129]
        exact k
theorem x125_114_frJ {p : Nat → Nat} {sp : Nat} {ln : Nat} {v1 : Int32} {v2 : Int32} {v3 : Int32} {v4 : Int32} {v5 : Int32} {v6 : Int32} {v7 : Int32} {v9 : Int32} {b : Nat} : ∀ (c : Nat) (v10 : Int32) (J : Nat → Nat → Int32) (L : Nat → Nat → Int64), b ≠ p 25 → b ≠ p 48 → b ≠ p 58 → b ≠ p 59 → b ≠ p 60 → b ≠ p 61 → b ≠ p 62 → b ≠ p 63 → b ≠ p 64 → (x125_114 p sp ln v1 v2 v3 v4 v5 v6 v7 v9 c v10 J L).1 b = J b := by
  intro c
  induction c with
  | zero =>
    intro v10 J L n0 n1 n2 n3 n4 n5 n6 n7 n8
    rw [x125_114]
    all_goals first | (dsimp only; exact (show J b = J b from rfl)) | exact (show J b = J b from rfl)
  | succ c ih =>
    intro v10 J L n0 n1 n2 n3 n4 n5 n6 n7 n8
    rw [x125_114]
    by_cases h : v3 ≤ v10
    · rw [if_pos h]
      all_goals first | (dsimp only; exact (show J b = J b from rfl)) | exact (show J b = J b from rfl)
    · rw [if_neg h]
      by_cases h : (Int32.ofInt 99) < (J (p 48) 2)
      · rw [if_pos h]
        all_goals first | (dsimp only; exact (show J b = J b from rfl)) | exact (show J b = J b from rfl)
      · rw [if_neg h]
        exact (ih _ _ _ n0 n1 n2 n3 n4 n5 n6 n7 n8).trans ((x81_frJ  n1 n5).trans (x1_frJ  n0 n1 n2 n3 n4 n5 n6 n7 n8))
def x125_85 (p : Nat → Nat) (sp : Nat) (ln : Nat) (v1 : Int32) (v2 : Int32) (v3 : Int32) (v4 : Int32) (v5 : Int32) : Nat → Int32 → Int32 → Int32 → Int32 → (Nat → Nat → Int32) → (Nat → Nat → Int64) → Int32 × (Nat → Nat → Int32) × (Nat → Nat → Int64)
  | 0, v6, v7, v8, v9, J, L => if v5 = 0 then (v6, J, L)
    else (v7, J, L)
  | c + 1, v6, v7, v8, v9, J, L => if v2 ≤ v9 then if v5 = 0 then (v6, J, L)
      else (v7, J, L)
    else (x125_85 p sp ln v1 v2 v3 v4 v5 c (v6 + ((((x125_114 p sp ln v1 v2 v3 v4 v5 v6 v7 v9 v3.toNatClampNeg (Int32.ofInt 0) (nt_u (x80 (fun i => p (48 + i)) (fun i => p (31 + i)) J) (p 48) 6 v8) L).1) (p 48) 5) - (J (p 31) 5))) (v7 + (x236 (x79 (fun i => p (48 + i)) ((x125_114 p sp ln v1 v2 v3 v4 v5 v6 v7 v9 v3.toNatClampNeg (Int32.ofInt 0) (nt_u (x80 (fun i => p (48 + i)) (fun i => p (31 + i)) J) (p 48) 6 v8) L).1)))) (((x125_114 p sp ln v1 v2 v3 v4 v5 v6 v7 v9 v3.toNatClampNeg (Int32.ofInt 0) (nt_u (x80 (fun i => p (48 + i)) (fun i => p (31 + i)) J) (p 48) 6 v8) L).1) (p 48) 6) (v9 + (Int32.ofInt 1)) ((x125_114 p sp ln v1 v2 v3 v4 v5 v6 v7 v9 v3.toNatClampNeg (Int32.ofInt 0) (nt_u (x80 (fun i => p (48 + i)) (fun i => p (31 + i)) J) (p 48) 6 v8) L).1) ((x125_114 p sp ln v1 v2 v3 v4 v5 v6 v7 v9 v3.toNatClampNeg (Int32.ofInt 0) (nt_u (x80 (fun i => p (48 + i)) (fun i => p (31 + i)) J) (p 48) 6 v8) L).2))
theorem xt125_85 {X : nt_X} {d : Nat} {M : nt_M} {o : Option Value × nt_M} {p : Nat → Nat} {sp : Nat} {ln : Nat} {ru : Nat} {v1 : Int32} {v2 : Int32} {v3 : Int32} {v4 : Int32} {v5 : Int32} (hp : xs_P M p) (hn : xs_Q M (fun i => p (31 + i))) (hm : xs_Q M (fun i => p (48 + i))) (hk : xs_N M (fun i => p (48 + i))) (hs : xs_S M p ru sp ln) (h0 : ¬ v1 < 0) (hr : nt_R M (p 23) v1.toNatClampNeg = some ru) : ∀ (c : Nat) (v6 : Int32) (v7 : Int32) (v8 : Int32) (v9 : Int32) (v10 : Int32) (J : Nat → Nat → Int32) (L : Nat → Nat → Int64), (¬ J (p 16) 4 ≤ v1 ∧ v2.toInt - v9.toInt ≤ c) → nt_rn X d 125 (85, [(0, .ref (p 16)), (1, .int v1), (2, .int v2), (3, .int v3), (4, .int v4), (5, .int v5), (6, .int v6), (7, .int v7), (8, .int v8), (9, .int v9), (10, .int v10)], [], me_w (lw M L) J) o → o = (some (.int ((x125_85 p sp ln v1 v2 v3 v4 v5 c v6 v7 v8 v9 J L).1)), me_w (lw M ((x125_85 p sp ln v1 v2 v3 v4 v5 c v6 v7 v8 v9 J L).2.2)) ((x125_85 p sp ln v1 v2 v3 v4 v5 c v6 v7 v8 v9 J L).2.1)) := by
  intro c
  induction c with
  | zero =>
    intro v6 v7 v8 v9 v10 J L hc k
    have k := ly_revb 3 (c' := (if v2 ≤ v9 then 213 else 91, [(0, .ref (p 16)), (1, .int v1), (2, .int v2), (3, .int v3), (4, .int v4), (5, .int v5), (6, .int v6), (7, .int v7), (8, .int v8), (9, .int v9), (10, .int v10)], [], me_w (lw M L) J)) rfl k
    have h88 : v2 ≤ v9 := lx_end hc.2
    rw [if_pos h88] at k
    have k := ly_revb 2 (c' := (if v5 = 0 then 218 else 223, [(0, .ref (p 16)), (1, .int v1), (2, .int v2), (3, .int v3), (4, .int v4), (5, .int v5), (6, .int v6), (7, .int v7), (8, .int v8), (9, .int v9), (10, .int v10)], [], me_w (lw M L) J)) rfl k
    by_cases h215 : v5 = 0
    · rw [if_pos h215] at k
      have k := ly_revb 2 (c' := (225, [(0, .ref (p 16)), (1, .int v1), (2, .int v2), (3, .int v3), (4, .int v4), (5, .int v5), (6, .int v6), (7, .int v7), (8, .int v8), (9, .int v9), (10, .int v10)], [.int v6], me_w (lw M L) J)) rfl k
      have k := lz_ri rfl (by decide) k
      rw [k, x125_85, if_pos h215]
    · rw [if_neg h215] at k
      have k := ly_revb 1 (c' := (225, [(0, .ref (p 16)), (1, .int v1), (2, .int v2), (3, .int v3), (4, .int v4), (5, .int v5), (6, .int v6), (7, .int v7), (8, .int v8), (9, .int v9), (10, .int v10)], [.int v7], me_w (lw M L) J)) rfl k
      have k := lz_ri rfl (by decide) k
      rw [k, x125_85, if_neg h215]
  | succ c ih =>
    intro v6 v7 v8 v9 v10 J L hc k
    have k := ly_revb 3 (c' := (if v2 ≤ v9 then 213 else 91, [(0, .ref (p 16)), (1, .int v1), (2, .int v2), (3, .int v3), (4, .int v4), (5, .int v5), (6, .int v6), (7, .int v7), (8, .int v8), (9, .int v9), (10, .int v10)], [], me_w (lw M L) J)) rfl k
    by_cases h88 : v2 ≤ v9
    · rw [if_pos h88] at k
      have k := ly_revb 2 (c' := (if v5 = 0 then 218 else 223, [(0, .ref (p 16)), (1, .int v1), (2, .int v2), (3, .int v3), (4, .int v4), (5, .int v5), (6, .int v6), (7, .int v7), (8, .int v8), (9, .int v9), (10, .int v10)], [], me_w (lw M L) J)) rfl k
      by_cases h215 : v5 = 0
      · rw [if_pos h215] at k
        have k := ly_revb 2 (c' := (225, [(0, .ref (p 16)), (1, .int v1), (2, .int v2), (3, .int v3), (4, .int v4), (5, .int v5), (6, .int v6), (7, .int v7), (8, .int v8), (9, .int v9), (10, .int v10)], [.int v6], me_w (lw M L) J)) rfl k
        have k := lz_ri rfl (by decide) k
        rw [k, x125_85, if_pos h88, if_pos h215]
      · rw [if_neg h215] at k
        have k := ly_revb 1 (c' := (225, [(0, .ref (p 16)), (1, .int v1), (2, .int v2), (3, .int v3), (4, .int v4), (5, .int v5), (6, .int v6), (7, .int v7), (8, .int v8), (9, .int v9), (10, .int v10)], [.int v7], me_w (lw M L) J)) rfl k
        have k := lz_ri rfl (by decide) k
        rw [k, x125_85, if_pos h88, if_neg h215]
    · rw [if_neg h88] at k
      have k := ly_revb 1 (c' := (92, [(0, .ref (p 16)), (1, .int v1), (2, .int v2), (3, .int v3), (4, .int v4), (5, .int v5), (6, .int v6), (7, .int v7), (8, .int v8), (9, .int v9), (10, .int v10)], [.ref (p 16)], me_w (lw M L) J)) rfl k
      have k := lz_get (a := (p 16)) (g := 1008) (M := me_w (lw M L) J) (v := .ref (p 48)) rfl (nt_gfR rfl (hp.1 (16, 8, 48) (by decide))) k
      have k := ly_revb 1 (c' := (96, [(0, .ref (p 16)), (1, .int v1), (2, .int v2), (3, .int v3), (4, .int v4), (5, .int v5), (6, .int v6), (7, .int v7), (8, .int v8), (9, .int v9), (10, .int v10)], [.ref (p 16), .ref (p 48)], me_w (lw M L) J)) rfl k
      have k := lz_get (a := (p 16)) (g := 1007) (M := me_w (lw M L) J) (v := .ref (p 31)) rfl (nt_gfR rfl (hp.1 (16, 7, 31) (by decide))) k
      obtain ⟨d1, o1, ed, kc, k⟩ := lz_c (g := 80) (q := 1) (vs := [.ref (p 48), .ref (p 31)]) (rest := []) rfl rfl (by decide) (Or.inr (Or.inl ⟨_, rfl, rfl⟩)) rfl k
      have e1 := xt80 (xs_lq hm) (xs_lq hn) (xs_d48 hp) (xs_ln hk) kc
      subst e1
      have k : nt_rn X _ 125 (102, [(0, .ref (p 16)), (1, .int v1), (2, .int v2), (3, .int v3), (4, .int v4), (5, .int v5), (6, .int v6), (7, .int v7), (8, .int v8), (9, .int v9), (10, .int v10)], [], me_w (lw M L) (x80 (fun i => p (48 + i)) (fun i => p (31 + i)) J)) _ := k
      have k := ly_revb 1 (c' := (103, [(0, .ref (p 16)), (1, .int v1), (2, .int v2), (3, .int v3), (4, .int v4), (5, .int v5), (6, .int v6), (7, .int v7), (8, .int v8), (9, .int v9), (10, .int v10)], [.ref (p 16)], me_w (lw M L) (x80 (fun i => p (48 + i)) (fun i => p (31 + i)) J))) rfl k
      have k := lz_get (a := (p 16)) (g := 1008) (M := me_w (lw M L) (x80 (fun i => p (48 + i)) (fun i => p (31 + i)) J)) (v := .ref (p 48)) rfl (nt_gfR rfl (hp.1 (16, 8, 48) (by decide))) k
      have k := ly_revb 1 (c' := (108, [(0, .ref (p 16)), (1, .int v1), (2, .int v2), (3, .int v3), (4, .int v4), (5, .int v5), (6, .int v6), (7, .int v7), (8, .int v8), (9, .int v9), (10, .int v10)], [.int v8, .ref (p 48)], me_w (lw M L) (x80 (fun i => p (48 + i)) (fun i => p (31 + i)) J))) rfl k
      have k := me_put rfl (by decide) k
      have k : nt_rn X _ 125 (111, [(0, .ref (p 16)), (1, .int v1), (2, .int v2), (3, .int v3), (4, .int v4), (5, .int v5), (6, .int v6), (7, .int v7), (8, .int v8), (9, .int v9), (10, .int v10)], [], me_w (lw M L) (nt_u (x80 (fun i => p (48 + i)) (fun i => p (31 + i)) J) (p 48) 6 v8)) _ := k
      have k := ly_revb 2 (c' := (114, [(10, .int (Int32.ofInt 0)), (0, .ref (p 16)), (1, .int v1), (2, .int v2), (3, .int v3), (4, .int v4), (5, .int v5), (6, .int v6), (7, .int v7), (8, .int v8), (9, .int v9)], [], me_w (lw M L) (nt_u (x80 (fun i => p (48 + i)) (fun i => p (31 + i)) J) (p 48) 6 v8))) rfl k
      have k := nt_rn_w (a := [(10, .int (Int32.ofInt 0)), (0, .ref (p 16)), (1, .int v1), (2, .int v2), (3, .int v3), (4, .int v4), (5, .int v5), (6, .int v6), (7, .int v7), (8, .int v8), (9, .int v9)]) (b := [(0, .ref (p 16)), (1, .int v1), (2, .int v2), (3, .int v3), (4, .int v4), (5, .int v5), (6, .int v6), (7, .int v7), (8, .int v8), (9, .int v9), (10, .int (Int32.ofInt 0))]) ⟨rfl, rfl, rfl, rfl, rfl, rfl, rfl, rfl, rfl, rfl, rfl, trivial⟩ rfl k
      have k := xt125_114 hp hn hm hk hs h0 hr  v3.toNatClampNeg (Int32.ofInt 0) (nt_u (x80 (fun i => p (48 + i)) (fun i => p (31 + i)) J) (p 48) 6 v8) L (⟨by rw [show (nt_u (x80 (fun i => p (48 + i)) (fun i => p (31 + i)) J) (p 48) 6 v8) (p 16) 4 = J (p 16) 4 from (mu_j (hp.2.1 16 48 (by omega) (by omega) (by decide))).trans (congrFun (x80_frJ  (hp.2.1 16 48 (by omega) (by omega) (by decide)) (hp.2.1 16 49 (by omega) (by omega) (by decide)) (hp.2.1 16 50 (by omega) (by omega) (by decide)) (hp.2.1 16 51 (by omega) (by omega) (by decide)) (hp.2.1 16 52 (by omega) (by omega) (by decide)) (hp.2.1 16 53 (by omega) (by omega) (by decide)) (hp.2.1 16 54 (by omega) (by omega) (by decide)) (hp.2.1 16 55 (by omega) (by omega) (by decide)) (hp.2.1 16 56 (by omega) (by omega) (by decide)) (hp.2.1 16 57 (by omega) (by omega) (by decide)) (hp.2.1 16 58 (by omega) (by omega) (by decide)) (hp.2.1 16 59 (by omega) (by omega) (by decide)) (hp.2.1 16 60 (by omega) (by omega) (by decide)) (hp.2.1 16 61 (by omega) (by omega) (by decide)) (hp.2.1 16 62 (by omega) (by omega) (by decide)) (hp.2.1 16 63 (by omega) (by omega) (by decide)) (hp.2.1 16 64 (by omega) (by omega) (by decide))) 4)]; exact hc.1, lx_beg (by decide)⟩) k
      obtain ⟨w10, k⟩ := k
      have k : nt_rn X _ 125 (163, [(0, .ref (p 16)), (1, .int v1), (2, .int v2), (3, .int v3), (4, .int v4), (5, .int v5), (6, .int v6), (7, .int v7), (8, .int v8), (9, .int v9), (10, .int w10)], [], me_w (lw M ((x125_114 p sp ln v1 v2 v3 v4 v5 v6 v7 v9 v3.toNatClampNeg (Int32.ofInt 0) (nt_u (x80 (fun i => p (48 + i)) (fun i => p (31 + i)) J) (p 48) 6 v8) L).2)) ((x125_114 p sp ln v1 v2 v3 v4 v5 v6 v7 v9 v3.toNatClampNeg (Int32.ofInt 0) (nt_u (x80 (fun i => p (48 + i)) (fun i => p (31 + i)) J) (p 48) 6 v8) L).1)) _ := k
      have k := ly_revb 1 (c' := (164, [(0, .ref (p 16)), (1, .int v1), (2, .int v2), (3, .int v3), (4, .int v4), (5, .int v5), (6, .int v6), (7, .int v7), (8, .int v8), (9, .int v9), (10, .int w10)], [.ref (p 16)], me_w (lw M ((x125_114 p sp ln v1 v2 v3 v4 v5 v6 v7 v9 v3.toNatClampNeg (Int32.ofInt 0) (nt_u (x80 (fun i => p (48 + i)) (fun i => p (31 + i)) J) (p 48) 6 v8) L).2)) ((x125_114 p sp ln v1 v2 v3 v4 v5 v6 v7 v9 v3.toNatClampNeg (Int32.ofInt 0) (nt_u (x80 (fun i => p (48 + i)) (fun i => p (31 + i)) J) (p 48) 6 v8) L).1))) rfl k
      have k := lz_get (a := (p 16)) (g := 1008) (M := me_w (lw M ((x125_114 p sp ln v1 v2 v3 v4 v5 v6 v7 v9 v3.toNatClampNeg (Int32.ofInt 0) (nt_u (x80 (fun i => p (48 + i)) (fun i => p (31 + i)) J) (p 48) 6 v8) L).2)) ((x125_114 p sp ln v1 v2 v3 v4 v5 v6 v7 v9 v3.toNatClampNeg (Int32.ofInt 0) (nt_u (x80 (fun i => p (48 + i)) (fun i => p (31 + i)) J) (p 48) 6 v8) L).1)) (v := .ref (p 48)) rfl (nt_gfR rfl (hp.1 (16, 8, 48) (by decide))) k
      have k := lz_get (a := (p 48)) (g := 606) (M := me_w (lw M ((x125_114 p sp ln v1 v2 v3 v4 v5 v6 v7 v9 v3.toNatClampNeg (Int32.ofInt 0) (nt_u (x80 (fun i => p (48 + i)) (fun i => p (31 + i)) J) (p 48) 6 v8) L).2)) ((x125_114 p sp ln v1 v2 v3 v4 v5 v6 v7 v9 v3.toNatClampNeg (Int32.ofInt 0) (nt_u (x80 (fun i => p (48 + i)) (fun i => p (31 + i)) J) (p 48) 6 v8) L).1)) (v := .int (((x125_114 p sp ln v1 v2 v3 v4 v5 v6 v7 v9 v3.toNatClampNeg (Int32.ofInt 0) (nt_u (x80 (fun i => p (48 + i)) (fun i => p (31 + i)) J) (p 48) 6 v8) L).1) (p 48) 6)) rfl (congrArg Value.int (rfl)) k
      have k := ly_revb 3 (c' := (175, [(8, .int (((x125_114 p sp ln v1 v2 v3 v4 v5 v6 v7 v9 v3.toNatClampNeg (Int32.ofInt 0) (nt_u (x80 (fun i => p (48 + i)) (fun i => p (31 + i)) J) (p 48) 6 v8) L).1) (p 48) 6)), (0, .ref (p 16)), (1, .int v1), (2, .int v2), (3, .int v3), (4, .int v4), (5, .int v5), (6, .int v6), (7, .int v7), (9, .int v9), (10, .int w10)], [.ref (p 16), .int v6], me_w (lw M ((x125_114 p sp ln v1 v2 v3 v4 v5 v6 v7 v9 v3.toNatClampNeg (Int32.ofInt 0) (nt_u (x80 (fun i => p (48 + i)) (fun i => p (31 + i)) J) (p 48) 6 v8) L).2)) ((x125_114 p sp ln v1 v2 v3 v4 v5 v6 v7 v9 v3.toNatClampNeg (Int32.ofInt 0) (nt_u (x80 (fun i => p (48 + i)) (fun i => p (31 + i)) J) (p 48) 6 v8) L).1))) rfl k
      have k := lz_get (a := (p 16)) (g := 1008) (M := me_w (lw M ((x125_114 p sp ln v1 v2 v3 v4 v5 v6 v7 v9 v3.toNatClampNeg (Int32.ofInt 0) (nt_u (x80 (fun i => p (48 + i)) (fun i => p (31 + i)) J) (p 48) 6 v8) L).2)) ((x125_114 p sp ln v1 v2 v3 v4 v5 v6 v7 v9 v3.toNatClampNeg (Int32.ofInt 0) (nt_u (x80 (fun i => p (48 + i)) (fun i => p (31 + i)) J) (p 48) 6 v8) L).1)) (v := .ref (p 48)) rfl (nt_gfR rfl (hp.1 (16, 8, 48) (by decide))) k
      have k := lz_get (a := (p 48)) (g := 605) (M := me_w (lw M ((x125_114 p sp ln v1 v2 v3 v4 v5 v6 v7 v9 v3.toNatClampNeg (Int32.ofInt 0) (nt_u (x80 (fun i => p (48 + i)) (fun i => p (31 + i)) J) (p 48) 6 v8) L).2)) ((x125_114 p sp ln v1 v2 v3 v4 v5 v6 v7 v9 v3.toNatClampNeg (Int32.ofInt 0) (nt_u (x80 (fun i => p (48 + i)) (fun i => p (31 + i)) J) (p 48) 6 v8) L).1)) (v := .int (((x125_114 p sp ln v1 v2 v3 v4 v5 v6 v7 v9 v3.toNatClampNeg (Int32.ofInt 0) (nt_u (x80 (fun i => p (48 + i)) (fun i => p (31 + i)) J) (p 48) 6 v8) L).1) (p 48) 5)) rfl (congrArg Value.int (rfl)) k
      have k := ly_revb 1 (c' := (182, [(8, .int (((x125_114 p sp ln v1 v2 v3 v4 v5 v6 v7 v9 v3.toNatClampNeg (Int32.ofInt 0) (nt_u (x80 (fun i => p (48 + i)) (fun i => p (31 + i)) J) (p 48) 6 v8) L).1) (p 48) 6)), (0, .ref (p 16)), (1, .int v1), (2, .int v2), (3, .int v3), (4, .int v4), (5, .int v5), (6, .int v6), (7, .int v7), (9, .int v9), (10, .int w10)], [.ref (p 16), .int (((x125_114 p sp ln v1 v2 v3 v4 v5 v6 v7 v9 v3.toNatClampNeg (Int32.ofInt 0) (nt_u (x80 (fun i => p (48 + i)) (fun i => p (31 + i)) J) (p 48) 6 v8) L).1) (p 48) 5), .int v6], me_w (lw M ((x125_114 p sp ln v1 v2 v3 v4 v5 v6 v7 v9 v3.toNatClampNeg (Int32.ofInt 0) (nt_u (x80 (fun i => p (48 + i)) (fun i => p (31 + i)) J) (p 48) 6 v8) L).2)) ((x125_114 p sp ln v1 v2 v3 v4 v5 v6 v7 v9 v3.toNatClampNeg (Int32.ofInt 0) (nt_u (x80 (fun i => p (48 + i)) (fun i => p (31 + i)) J) (p 48) 6 v8) L).1))) rfl k
      have k := lz_get (a := (p 16)) (g := 1007) (M := me_w (lw M ((x125_114 p sp ln v1 v2 v3 v4 v5 v6 v7 v9 v3.toNatClampNeg (Int32.ofInt 0) (nt_u (x80 (fun i => p (48 + i)) (fun i => p (31 + i)) J) (p 48) 6 v8) L).2)) ((x125_114 p sp ln v1 v2 v3 v4 v5 v6 v7 v9 v3.toNatClampNeg (Int32.ofInt 0) (nt_u (x80 (fun i => p (48 + i)) (fun i => p (31 + i)) J) (p 48) 6 v8) L).1)) (v := .ref (p 31)) rfl (nt_gfR rfl (hp.1 (16, 7, 31) (by decide))) k
      have k := lz_get (a := (p 31)) (g := 605) (M := me_w (lw M ((x125_114 p sp ln v1 v2 v3 v4 v5 v6 v7 v9 v3.toNatClampNeg (Int32.ofInt 0) (nt_u (x80 (fun i => p (48 + i)) (fun i => p (31 + i)) J) (p 48) 6 v8) L).2)) ((x125_114 p sp ln v1 v2 v3 v4 v5 v6 v7 v9 v3.toNatClampNeg (Int32.ofInt 0) (nt_u (x80 (fun i => p (48 + i)) (fun i => p (31 + i)) J) (p 48) 6 v8) L).1)) (v := .int (J (p 31) 5)) rfl (congrArg Value.int ((congrFun (x125_114_frJ _ _ _ _ (hp.2.1 31 25 (by omega) (by omega) (by decide)) (hp.2.1 31 48 (by omega) (by omega) (by decide)) (hp.2.1 31 58 (by omega) (by omega) (by decide)) (hp.2.1 31 59 (by omega) (by omega) (by decide)) (hp.2.1 31 60 (by omega) (by omega) (by decide)) (hp.2.1 31 61 (by omega) (by omega) (by decide)) (hp.2.1 31 62 (by omega) (by omega) (by decide)) (hp.2.1 31 63 (by omega) (by omega) (by decide)) (hp.2.1 31 64 (by omega) (by omega) (by decide))) 5).trans ((mu_j (hp.2.1 31 48 (by omega) (by omega) (by decide))).trans (congrFun (x80_frJ  (hp.2.1 31 48 (by omega) (by omega) (by decide)) (hp.2.1 31 49 (by omega) (by omega) (by decide)) (hp.2.1 31 50 (by omega) (by omega) (by decide)) (hp.2.1 31 51 (by omega) (by omega) (by decide)) (hp.2.1 31 52 (by omega) (by omega) (by decide)) (hp.2.1 31 53 (by omega) (by omega) (by decide)) (hp.2.1 31 54 (by omega) (by omega) (by decide)) (hp.2.1 31 55 (by omega) (by omega) (by decide)) (hp.2.1 31 56 (by omega) (by omega) (by decide)) (hp.2.1 31 57 (by omega) (by omega) (by decide)) (hp.2.1 31 58 (by omega) (by omega) (by decide)) (hp.2.1 31 59 (by omega) (by omega) (by decide)) (hp.2.1 31 60 (by omega) (by omega) (by decide)) (hp.2.1 31 61 (by omega) (by omega) (by decide)) (hp.2.1 31 62 (by omega) (by omega) (by decide)) (hp.2.1 31 63 (by omega) (by omega) (by decide)) (hp.2.1 31 64 (by omega) (by omega) (by decide))) 5)))) k
      have k := ly_revb 5 (c' := (195, [(6, .int (v6 + ((((x125_114 p sp ln v1 v2 v3 v4 v5 v6 v7 v9 v3.toNatClampNeg (Int32.ofInt 0) (nt_u (x80 (fun i => p (48 + i)) (fun i => p (31 + i)) J) (p 48) 6 v8) L).1) (p 48) 5) - (J (p 31) 5)))), (8, .int (((x125_114 p sp ln v1 v2 v3 v4 v5 v6 v7 v9 v3.toNatClampNeg (Int32.ofInt 0) (nt_u (x80 (fun i => p (48 + i)) (fun i => p (31 + i)) J) (p 48) 6 v8) L).1) (p 48) 6)), (0, .ref (p 16)), (1, .int v1), (2, .int v2), (3, .int v3), (4, .int v4), (5, .int v5), (7, .int v7), (9, .int v9), (10, .int w10)], [.ref (p 16), .int v7], me_w (lw M ((x125_114 p sp ln v1 v2 v3 v4 v5 v6 v7 v9 v3.toNatClampNeg (Int32.ofInt 0) (nt_u (x80 (fun i => p (48 + i)) (fun i => p (31 + i)) J) (p 48) 6 v8) L).2)) ((x125_114 p sp ln v1 v2 v3 v4 v5 v6 v7 v9 v3.toNatClampNeg (Int32.ofInt 0) (nt_u (x80 (fun i => p (48 + i)) (fun i => p (31 + i)) J) (p 48) 6 v8) L).1))) rfl k
      have k := lz_get (a := (p 16)) (g := 1008) (M := me_w (lw M ((x125_114 p sp ln v1 v2 v3 v4 v5 v6 v7 v9 v3.toNatClampNeg (Int32.ofInt 0) (nt_u (x80 (fun i => p (48 + i)) (fun i => p (31 + i)) J) (p 48) 6 v8) L).2)) ((x125_114 p sp ln v1 v2 v3 v4 v5 v6 v7 v9 v3.toNatClampNeg (Int32.ofInt 0) (nt_u (x80 (fun i => p (48 + i)) (fun i => p (31 + i)) J) (p 48) 6 v8) L).1)) (v := .ref (p 48)) rfl (nt_gfR rfl (hp.1 (16, 8, 48) (by decide))) k
      obtain ⟨d1, o1, ed, kc, k⟩ := lz_c (g := 79) (q := 1) (vs := [.ref (p 48)]) (rest := [.int v7]) rfl rfl (by decide) (Or.inr (Or.inl ⟨_, rfl, rfl⟩)) rfl k
      have e1 := xt79 (xs_lq hm) kc
      subst e1
      have k : nt_rn X _ 125 (201, [(6, .int (v6 + ((((x125_114 p sp ln v1 v2 v3 v4 v5 v6 v7 v9 v3.toNatClampNeg (Int32.ofInt 0) (nt_u (x80 (fun i => p (48 + i)) (fun i => p (31 + i)) J) (p 48) 6 v8) L).1) (p 48) 5) - (J (p 31) 5)))), (8, .int (((x125_114 p sp ln v1 v2 v3 v4 v5 v6 v7 v9 v3.toNatClampNeg (Int32.ofInt 0) (nt_u (x80 (fun i => p (48 + i)) (fun i => p (31 + i)) J) (p 48) 6 v8) L).1) (p 48) 6)), (0, .ref (p 16)), (1, .int v1), (2, .int v2), (3, .int v3), (4, .int v4), (5, .int v5), (7, .int v7), (9, .int v9), (10, .int w10)], [.int (x79 (fun i => p (48 + i)) ((x125_114 p sp ln v1 v2 v3 v4 v5 v6 v7 v9 v3.toNatClampNeg (Int32.ofInt 0) (nt_u (x80 (fun i => p (48 + i)) (fun i => p (31 + i)) J) (p 48) 6 v8) L).1)), .int v7], me_w (lw M ((x125_114 p sp ln v1 v2 v3 v4 v5 v6 v7 v9 v3.toNatClampNeg (Int32.ofInt 0) (nt_u (x80 (fun i => p (48 + i)) (fun i => p (31 + i)) J) (p 48) 6 v8) L).2)) ((x125_114 p sp ln v1 v2 v3 v4 v5 v6 v7 v9 v3.toNatClampNeg (Int32.ofInt 0) (nt_u (x80 (fun i => p (48 + i)) (fun i => p (31 + i)) J) (p 48) 6 v8) L).1)) _ := k
      obtain ⟨d1, o1, ed, kc, k⟩ := lz_c (g := 236) (q := 0) (vs := [.int (x79 (fun i => p (48 + i)) ((x125_114 p sp ln v1 v2 v3 v4 v5 v6 v7 v9 v3.toNatClampNeg (Int32.ofInt 0) (nt_u (x80 (fun i => p (48 + i)) (fun i => p (31 + i)) J) (p 48) 6 v8) L).1))]) (rest := [.int v7]) rfl rfl (by decide) (Or.inl ⟨_, rfl, rfl⟩) rfl k
      have e1 := xt236  kc
      subst e1
      have k : nt_rn X _ 125 (204, [(6, .int (v6 + ((((x125_114 p sp ln v1 v2 v3 v4 v5 v6 v7 v9 v3.toNatClampNeg (Int32.ofInt 0) (nt_u (x80 (fun i => p (48 + i)) (fun i => p (31 + i)) J) (p 48) 6 v8) L).1) (p 48) 5) - (J (p 31) 5)))), (8, .int (((x125_114 p sp ln v1 v2 v3 v4 v5 v6 v7 v9 v3.toNatClampNeg (Int32.ofInt 0) (nt_u (x80 (fun i => p (48 + i)) (fun i => p (31 + i)) J) (p 48) 6 v8) L).1) (p 48) 6)), (0, .ref (p 16)), (1, .int v1), (2, .int v2), (3, .int v3), (4, .int v4), (5, .int v5), (7, .int v7), (9, .int v9), (10, .int w10)], [.int (x236 (x79 (fun i => p (48 + i)) ((x125_114 p sp ln v1 v2 v3 v4 v5 v6 v7 v9 v3.toNatClampNeg (Int32.ofInt 0) (nt_u (x80 (fun i => p (48 + i)) (fun i => p (31 + i)) J) (p 48) 6 v8) L).1))), .int v7], me_w (lw M ((x125_114 p sp ln v1 v2 v3 v4 v5 v6 v7 v9 v3.toNatClampNeg (Int32.ofInt 0) (nt_u (x80 (fun i => p (48 + i)) (fun i => p (31 + i)) J) (p 48) 6 v8) L).2)) ((x125_114 p sp ln v1 v2 v3 v4 v5 v6 v7 v9 v3.toNatClampNeg (Int32.ofInt 0) (nt_u (x80 (fun i => p (48 + i)) (fun i => p (31 + i)) J) (p 48) 6 v8) L).1)) _ := k
      have k := ly_revb 4 (c' := (85, [(9, .int (v9 + (Int32.ofInt 1))), (7, .int (v7 + (x236 (x79 (fun i => p (48 + i)) ((x125_114 p sp ln v1 v2 v3 v4 v5 v6 v7 v9 v3.toNatClampNeg (Int32.ofInt 0) (nt_u (x80 (fun i => p (48 + i)) (fun i => p (31 + i)) J) (p 48) 6 v8) L).1))))), (6, .int (v6 + ((((x125_114 p sp ln v1 v2 v3 v4 v5 v6 v7 v9 v3.toNatClampNeg (Int32.ofInt 0) (nt_u (x80 (fun i => p (48 + i)) (fun i => p (31 + i)) J) (p 48) 6 v8) L).1) (p 48) 5) - (J (p 31) 5)))), (8, .int (((x125_114 p sp ln v1 v2 v3 v4 v5 v6 v7 v9 v3.toNatClampNeg (Int32.ofInt 0) (nt_u (x80 (fun i => p (48 + i)) (fun i => p (31 + i)) J) (p 48) 6 v8) L).1) (p 48) 6)), (0, .ref (p 16)), (1, .int v1), (2, .int v2), (3, .int v3), (4, .int v4), (5, .int v5), (10, .int w10)], [], me_w (lw M ((x125_114 p sp ln v1 v2 v3 v4 v5 v6 v7 v9 v3.toNatClampNeg (Int32.ofInt 0) (nt_u (x80 (fun i => p (48 + i)) (fun i => p (31 + i)) J) (p 48) 6 v8) L).2)) ((x125_114 p sp ln v1 v2 v3 v4 v5 v6 v7 v9 v3.toNatClampNeg (Int32.ofInt 0) (nt_u (x80 (fun i => p (48 + i)) (fun i => p (31 + i)) J) (p 48) 6 v8) L).1))) rfl k
      have k := nt_rn_w (a := [(9, .int (v9 + (Int32.ofInt 1))), (7, .int (v7 + (x236 (x79 (fun i => p (48 + i)) ((x125_114 p sp ln v1 v2 v3 v4 v5 v6 v7 v9 v3.toNatClampNeg (Int32.ofInt 0) (nt_u (x80 (fun i => p (48 + i)) (fun i => p (31 + i)) J) (p 48) 6 v8) L).1))))), (6, .int (v6 + ((((x125_114 p sp ln v1 v2 v3 v4 v5 v6 v7 v9 v3.toNatClampNeg (Int32.ofInt 0) (nt_u (x80 (fun i => p (48 + i)) (fun i => p (31 + i)) J) (p 48) 6 v8) L).1) (p 48) 5) - (J (p 31) 5)))), (8, .int (((x125_114 p sp ln v1 v2 v3 v4 v5 v6 v7 v9 v3.toNatClampNeg (Int32.ofInt 0) (nt_u (x80 (fun i => p (48 + i)) (fun i => p (31 + i)) J) (p 48) 6 v8) L).1) (p 48) 6)), (0, .ref (p 16)), (1, .int v1), (2, .int v2), (3, .int v3), (4, .int v4), (5, .int v5), (10, .int w10)]) (b := [(0, .ref (p 16)), (1, .int v1), (2, .int v2), (3, .int v3), (4, .int v4), (5, .int v5), (6, .int (v6 + ((((x125_114 p sp ln v1 v2 v3 v4 v5 v6 v7 v9 v3.toNatClampNeg (Int32.ofInt 0) (nt_u (x80 (fun i => p (48 + i)) (fun i => p (31 + i)) J) (p 48) 6 v8) L).1) (p 48) 5) - (J (p 31) 5)))), (7, .int (v7 + (x236 (x79 (fun i => p (48 + i)) ((x125_114 p sp ln v1 v2 v3 v4 v5 v6 v7 v9 v3.toNatClampNeg (Int32.ofInt 0) (nt_u (x80 (fun i => p (48 + i)) (fun i => p (31 + i)) J) (p 48) 6 v8) L).1))))), (8, .int (((x125_114 p sp ln v1 v2 v3 v4 v5 v6 v7 v9 v3.toNatClampNeg (Int32.ofInt 0) (nt_u (x80 (fun i => p (48 + i)) (fun i => p (31 + i)) J) (p 48) 6 v8) L).1) (p 48) 6)), (9, .int (v9 + (Int32.ofInt 1))), (10, .int w10)]) ⟨rfl, rfl, rfl, rfl, rfl, rfl, rfl, rfl, rfl, rfl, rfl, trivial⟩ rfl k
      have k := ih (v6 + ((((x125_114 p sp ln v1 v2 v3 v4 v5 v6 v7 v9 v3.toNatClampNeg (Int32.ofInt 0) (nt_u (x80 (fun i => p (48 + i)) (fun i => p (31 + i)) J) (p 48) 6 v8) L).1) (p 48) 5) - (J (p 31) 5))) (v7 + (x236 (x79 (fun i => p (48 + i)) ((x125_114 p sp ln v1 v2 v3 v4 v5 v6 v7 v9 v3.toNatClampNeg (Int32.ofInt 0) (nt_u (x80 (fun i => p (48 + i)) (fun i => p (31 + i)) J) (p 48) 6 v8) L).1)))) (((x125_114 p sp ln v1 v2 v3 v4 v5 v6 v7 v9 v3.toNatClampNeg (Int32.ofInt 0) (nt_u (x80 (fun i => p (48 + i)) (fun i => p (31 + i)) J) (p 48) 6 v8) L).1) (p 48) 6) (v9 + (Int32.ofInt 1)) w10 ((x125_114 p sp ln v1 v2 v3 v4 v5 v6 v7 v9 v3.toNatClampNeg (Int32.ofInt 0) (nt_u (x80 (fun i => p (48 + i)) (fun i => p (31 + i)) J) (p 48) 6 v8) L).1) ((x125_114 p sp ln v1 v2 v3 v4 v5 v6 v7 v9 v3.toNatClampNeg (Int32.ofInt 0) (nt_u (x80 (fun i => p (48 + i)) (fun i => p (31 + i)) J) (p 48) 6 v8) L).2) (⟨by rw [show ((x125_114 p sp ln v1 v2 v3 v4 v5 v6 v7 v9 v3.toNatClampNeg (Int32.ofInt 0) (nt_u (x80 (fun i => p (48 + i)) (fun i => p (31 + i)) J) (p 48) 6 v8) L).1) (p 16) 4 = J (p 16) 4 from (congrFun (x125_114_frJ _ _ _ _ (hp.2.1 16 25 (by omega) (by omega) (by decide)) (hp.2.1 16 48 (by omega) (by omega) (by decide)) (hp.2.1 16 58 (by omega) (by omega) (by decide)) (hp.2.1 16 59 (by omega) (by omega) (by decide)) (hp.2.1 16 60 (by omega) (by omega) (by decide)) (hp.2.1 16 61 (by omega) (by omega) (by decide)) (hp.2.1 16 62 (by omega) (by omega) (by decide)) (hp.2.1 16 63 (by omega) (by omega) (by decide)) (hp.2.1 16 64 (by omega) (by omega) (by decide))) 4).trans ((mu_j (hp.2.1 16 48 (by omega) (by omega) (by decide))).trans (congrFun (x80_frJ  (hp.2.1 16 48 (by omega) (by omega) (by decide)) (hp.2.1 16 49 (by omega) (by omega) (by decide)) (hp.2.1 16 50 (by omega) (by omega) (by decide)) (hp.2.1 16 51 (by omega) (by omega) (by decide)) (hp.2.1 16 52 (by omega) (by omega) (by decide)) (hp.2.1 16 53 (by omega) (by omega) (by decide)) (hp.2.1 16 54 (by omega) (by omega) (by decide)) (hp.2.1 16 55 (by omega) (by omega) (by decide)) (hp.2.1 16 56 (by omega) (by omega) (by decide)) (hp.2.1 16 57 (by omega) (by omega) (by decide)) (hp.2.1 16 58 (by omega) (by omega) (by decide)) (hp.2.1 16 59 (by omega) (by omega) (by decide)) (hp.2.1 16 60 (by omega) (by omega) (by decide)) (hp.2.1 16 61 (by omega) (by omega) (by decide)) (hp.2.1 16 62 (by omega) (by omega) (by decide)) (hp.2.1 16 63 (by omega) (by omega) (by decide)) (hp.2.1 16 64 (by omega) (by omega) (by decide))) 4))]; exact hc.1, lx_dec h88 hc.2⟩) k
      rw [k, x125_85, if_neg h88]
def x125 (p : Nat → Nat) (sp : Nat) (ln : Nat) (v1 : Int32) (v2 : Int32) (v3 : Int32) (v4 : Int32) (v5 : Int32) (J : Nat → Nat → Int32) (L : Nat → Nat → Int64) : Int32 × (Nat → Nat → Int32) × (Nat → Nat → Int64) := if (J (p 31) 1) = 0 then (Int32.ofInt (-1), J, L)
  else if (x111 p v1 J) = 0 then (Int32.ofInt (-1), J, L)
    else if v2 < (Int32.ofInt 1) then (Int32.ofInt (-1), J, L)
      else if (Int32.ofInt 20) < v2 then (Int32.ofInt (-1), J, L)
        else if v3 < (Int32.ofInt 1) then (Int32.ofInt (-1), J, L)
          else if v3 ≤ (Int32.ofInt 100) then if v4 < 0 then (Int32.ofInt (-1), J, L)
              else if (Int32.ofInt 100) < v4 then (Int32.ofInt (-1), J, L)
                else if v5 < 0 then (Int32.ofInt (-1), J, L)
                  else if v5 ≤ (Int32.ofInt 1) then (x125_85 p sp ln v1 v2 v3 v4 v5 v2.toNatClampNeg (Int32.ofInt 0) (Int32.ofInt 0) (J (p 31) 6) (Int32.ofInt 0) J L)
                    else (Int32.ofInt (-1), J, L)
            else (Int32.ofInt (-1), J, L)
theorem xt125 {X : nt_X} {d : Nat} {M : nt_M} {o : Option Value × nt_M} {p : Nat → Nat} {sp : Nat} {ln : Nat} {ru : Nat} {v1 : Int32} {v2 : Int32} {v3 : Int32} {v4 : Int32} {v5 : Int32} {J : Nat → Nat → Int32} {L : Nat → Nat → Int64} (hp : xs_P M p) (hn : xs_Q M (fun i => p (31 + i))) (hm : xs_Q M (fun i => p (48 + i))) (hk : xs_N M (fun i => p (48 + i))) (hs : xs_S M p ru sp ln) (h0 : ¬ v1 < 0) (hr : nt_R M (p 23) v1.toNatClampNeg = some ru) (h1 : ¬ J (p 16) 4 ≤ v1) (k : nt_ev X d 125 [.ref (p 16), .int v1, .int v2, .int v3, .int v4, .int v5] (me_w (lw M L) J) o) : o = (some (.int ((x125 p sp ln v1 v2 v3 v4 v5 J L).1)), me_w (lw M ((x125 p sp ln v1 v2 v3 v4 v5 J L).2.2)) ((x125 p sp ln v1 v2 v3 v4 v5 J L).2.1)) := by
  have k : nt_rn X d 125 (0, [(0, .ref (p 16)), (1, .int v1), (2, .int v2), (3, .int v3), (4, .int v4), (5, .int v5)], [], me_w (lw M L) J) o := k
  have k := ly_revb 1 (c' := (1, [(0, .ref (p 16)), (1, .int v1), (2, .int v2), (3, .int v3), (4, .int v4), (5, .int v5)], [.ref (p 16)], me_w (lw M L) J)) rfl k
  have k := lz_get (a := (p 16)) (g := 1007) (M := me_w (lw M L) J) (v := .ref (p 31)) rfl (nt_gfR rfl (hp.1 (16, 7, 31) (by decide))) k
  have k := lz_get (a := (p 31)) (g := 601) (M := me_w (lw M L) J) (v := .int (J (p 31) 1)) rfl (congrArg Value.int (rfl)) k
  have k := ly_revb 1 (c' := (if (J (p 31) 1) = 0 then 40 else 10, [(0, .ref (p 16)), (1, .int v1), (2, .int v2), (3, .int v3), (4, .int v4), (5, .int v5)], [], me_w (lw M L) J)) rfl k
  by_cases h7 : (J (p 31) 1) = 0
  · rw [if_pos h7] at k
    have k := ly_revb 1 (c' := (41, [(0, .ref (p 16)), (1, .int v1), (2, .int v2), (3, .int v3), (4, .int v4), (5, .int v5)], [.int (Int32.ofInt (-1))], me_w (lw M L) J)) rfl k
    have k := lz_ri rfl (by decide) k
    rw [k, x125, if_pos h7]
  · rw [if_neg h7] at k
    have k := ly_revb 2 (c' := (12, [(0, .ref (p 16)), (1, .int v1), (2, .int v2), (3, .int v3), (4, .int v4), (5, .int v5)], [.int v1, .ref (p 16)], me_w (lw M L) J)) rfl k
    obtain ⟨d1, o1, ed, kc, k⟩ := lz_c (g := 111) (q := 1) (vs := [.ref (p 16), .int v1]) (rest := []) rfl rfl (by decide) (Or.inr (Or.inl ⟨_, rfl, rfl⟩)) rfl k
    have e1 := xt111 (xs_lp hp) kc
    subst e1
    have k : nt_rn X _ 125 (15, [(0, .ref (p 16)), (1, .int v1), (2, .int v2), (3, .int v3), (4, .int v4), (5, .int v5)], [.int (x111 p v1 J)], me_w (lw M L) J) _ := k
    have k := ly_revb 1 (c' := (if (x111 p v1 J) = 0 then 40 else 18, [(0, .ref (p 16)), (1, .int v1), (2, .int v2), (3, .int v3), (4, .int v4), (5, .int v5)], [], me_w (lw M L) J)) rfl k
    by_cases h15 : (x111 p v1 J) = 0
    · rw [if_pos h15] at k
      have k := ly_revb 1 (c' := (41, [(0, .ref (p 16)), (1, .int v1), (2, .int v2), (3, .int v3), (4, .int v4), (5, .int v5)], [.int (Int32.ofInt (-1))], me_w (lw M L) J)) rfl k
      have k := lz_ri rfl (by decide) k
      rw [k, x125, if_neg h7, if_pos h15]
    · rw [if_neg h15] at k
      have k := ly_revb 3 (c' := (if v2 < (Int32.ofInt 1) then 40 else 23, [(0, .ref (p 16)), (1, .int v1), (2, .int v2), (3, .int v3), (4, .int v4), (5, .int v5)], [], me_w (lw M L) J)) rfl k
      by_cases h20 : v2 < (Int32.ofInt 1)
      · rw [if_pos h20] at k
        have k := ly_revb 1 (c' := (41, [(0, .ref (p 16)), (1, .int v1), (2, .int v2), (3, .int v3), (4, .int v4), (5, .int v5)], [.int (Int32.ofInt (-1))], me_w (lw M L) J)) rfl k
        have k := lz_ri rfl (by decide) k
        rw [k, x125, if_neg h7, if_neg h15, if_pos h20]
      · rw [if_neg h20] at k
        have k := ly_revb 3 (c' := (if (Int32.ofInt 20) < v2 then 40 else 29, [(0, .ref (p 16)), (1, .int v1), (2, .int v2), (3, .int v3), (4, .int v4), (5, .int v5)], [], me_w (lw M L) J)) rfl k
        by_cases h26 : (Int32.ofInt 20) < v2
        · rw [if_pos h26] at k
          have k := ly_revb 1 (c' := (41, [(0, .ref (p 16)), (1, .int v1), (2, .int v2), (3, .int v3), (4, .int v4), (5, .int v5)], [.int (Int32.ofInt (-1))], me_w (lw M L) J)) rfl k
          have k := lz_ri rfl (by decide) k
          rw [k, x125, if_neg h7, if_neg h15, if_neg h20, if_pos h26]
        · rw [if_neg h26] at k
          have k := ly_revb 3 (c' := (if v3 < (Int32.ofInt 1) then 40 else 34, [(0, .ref (p 16)), (1, .int v1), (2, .int v2), (3, .int v3), (4, .int v4), (5, .int v5)], [], me_w (lw M L) J)) rfl k
          by_cases h31 : v3 < (Int32.ofInt 1)
          · rw [if_pos h31] at k
            have k := ly_revb 1 (c' := (41, [(0, .ref (p 16)), (1, .int v1), (2, .int v2), (3, .int v3), (4, .int v4), (5, .int v5)], [.int (Int32.ofInt (-1))], me_w (lw M L) J)) rfl k
            have k := lz_ri rfl (by decide) k
            rw [k, x125, if_neg h7, if_neg h15, if_neg h20, if_neg h26, if_pos h31]
          · rw [if_neg h31] at k
            have k := ly_revb 3 (c' := (if v3 ≤ (Int32.ofInt 100) then 42 else 40, [(0, .ref (p 16)), (1, .int v1), (2, .int v2), (3, .int v3), (4, .int v4), (5, .int v5)], [], me_w (lw M L) J)) rfl k
            by_cases h37 : v3 ≤ (Int32.ofInt 100)
            · rw [if_pos h37] at k
              have k := ly_revb 2 (c' := (if v4 < 0 then 65 else 47, [(0, .ref (p 16)), (1, .int v1), (2, .int v2), (3, .int v3), (4, .int v4), (5, .int v5)], [], me_w (lw M L) J)) rfl k
              by_cases h44 : v4 < 0
              · rw [if_pos h44] at k
                have k := ly_revb 1 (c' := (66, [(0, .ref (p 16)), (1, .int v1), (2, .int v2), (3, .int v3), (4, .int v4), (5, .int v5)], [.int (Int32.ofInt (-1))], me_w (lw M L) J)) rfl k
                have k := lz_ri rfl (by decide) k
                rw [k, x125, if_neg h7, if_neg h15, if_neg h20, if_neg h26, if_neg h31, if_pos h37, if_pos h44]
              · rw [if_neg h44] at k
                have k := ly_revb 3 (c' := (if (Int32.ofInt 100) < v4 then 65 else 54, [(0, .ref (p 16)), (1, .int v1), (2, .int v2), (3, .int v3), (4, .int v4), (5, .int v5)], [], me_w (lw M L) J)) rfl k
                by_cases h51 : (Int32.ofInt 100) < v4
                · rw [if_pos h51] at k
                  have k := ly_revb 1 (c' := (66, [(0, .ref (p 16)), (1, .int v1), (2, .int v2), (3, .int v3), (4, .int v4), (5, .int v5)], [.int (Int32.ofInt (-1))], me_w (lw M L) J)) rfl k
                  have k := lz_ri rfl (by decide) k
                  rw [k, x125, if_neg h7, if_neg h15, if_neg h20, if_neg h26, if_neg h31, if_pos h37, if_neg h44, if_pos h51]
                · rw [if_neg h51] at k
                  have k := ly_revb 2 (c' := (if v5 < 0 then 65 else 59, [(0, .ref (p 16)), (1, .int v1), (2, .int v2), (3, .int v3), (4, .int v4), (5, .int v5)], [], me_w (lw M L) J)) rfl k
                  by_cases h56 : v5 < 0
                  · rw [if_pos h56] at k
                    have k := ly_revb 1 (c' := (66, [(0, .ref (p 16)), (1, .int v1), (2, .int v2), (3, .int v3), (4, .int v4), (5, .int v5)], [.int (Int32.ofInt (-1))], me_w (lw M L) J)) rfl k
                    have k := lz_ri rfl (by decide) k
                    rw [k, x125, if_neg h7, if_neg h15, if_neg h20, if_neg h26, if_neg h31, if_pos h37, if_neg h44, if_neg h51, if_pos h56]
                  · rw [if_neg h56] at k
                    have k := ly_revb 3 (c' := (if v5 ≤ (Int32.ofInt 1) then 67 else 65, [(0, .ref (p 16)), (1, .int v1), (2, .int v2), (3, .int v3), (4, .int v4), (5, .int v5)], [], me_w (lw M L) J)) rfl k
                    by_cases h62 : v5 ≤ (Int32.ofInt 1)
                    · rw [if_pos h62] at k
                      have k := ly_revb 5 (c' := (74, [(7, .int (Int32.ofInt 0)), (6, .int (Int32.ofInt 0)), (0, .ref (p 16)), (1, .int v1), (2, .int v2), (3, .int v3), (4, .int v4), (5, .int v5)], [.ref (p 16)], me_w (lw M L) J)) rfl k
                      have k := lz_get (a := (p 16)) (g := 1007) (M := me_w (lw M L) J) (v := .ref (p 31)) rfl (nt_gfR rfl (hp.1 (16, 7, 31) (by decide))) k
                      have k := lz_get (a := (p 31)) (g := 606) (M := me_w (lw M L) J) (v := .int (J (p 31) 6)) rfl (congrArg Value.int (rfl)) k
                      have k := ly_revb 3 (c' := (85, [(9, .int (Int32.ofInt 0)), (8, .int (J (p 31) 6)), (7, .int (Int32.ofInt 0)), (6, .int (Int32.ofInt 0)), (0, .ref (p 16)), (1, .int v1), (2, .int v2), (3, .int v3), (4, .int v4), (5, .int v5)], [], me_w (lw M L) J)) rfl k
                      have k := nt_rn_w (a := [(9, .int (Int32.ofInt 0)), (8, .int (J (p 31) 6)), (7, .int (Int32.ofInt 0)), (6, .int (Int32.ofInt 0)), (0, .ref (p 16)), (1, .int v1), (2, .int v2), (3, .int v3), (4, .int v4), (5, .int v5)]) (b := [(0, .ref (p 16)), (1, .int v1), (2, .int v2), (3, .int v3), (4, .int v4), (5, .int v5), (6, .int (Int32.ofInt 0)), (7, .int (Int32.ofInt 0)), (8, .int (J (p 31) 6)), (9, .int (Int32.ofInt 0)), (10, .int (Int32.ofInt 0))]) ⟨rfl, rfl, rfl, rfl, rfl, rfl, rfl, rfl, rfl, rfl, trivial⟩ rfl k
                      have k := xt125_85 hp hn hm hk hs h0 hr  v2.toNatClampNeg (Int32.ofInt 0) (Int32.ofInt 0) (J (p 31) 6) (Int32.ofInt 0) (Int32.ofInt 0) J L (⟨h1, lx_beg (by decide)⟩) k
                      rw [k, x125, if_neg h7, if_neg h15, if_neg h20, if_neg h26, if_neg h31, if_pos h37, if_neg h44, if_neg h51, if_neg h56, if_pos h62]
                    · rw [if_neg h62] at k
                      have k := ly_revb 1 (c' := (66, [(0, .ref (p 16)), (1, .int v1), (2, .int v2), (3, .int v3), (4, .int v4), (5, .int v5)], [.int (Int32.ofInt (-1))], me_w (lw M L) J)) rfl k
                      have k := lz_ri rfl (by decide) k
                      rw [k, x125, if_neg h7, if_neg h15, if_neg h20, if_neg h26, if_neg h31, if_pos h37, if_neg h44, if_neg h51, if_neg h56, if_neg h62]
            · rw [if_neg h37] at k
              have k := ly_revb 1 (c' := (41, [(0, .ref (p 16)), (1, .int v1), (2, .int v2), (3, .int v3), (4, .int v4), (5, .int v5)], [.int (Int32.ofInt (-1))], me_w (lw M L) J)) rfl k
              have k := lz_ri rfl (by decide) k
              rw [k, x125, if_neg h7, if_neg h15, if_neg h20, if_neg h26, if_neg h31, if_neg h37]
theorem x125_85_frJ {p : Nat → Nat} {sp : Nat} {ln : Nat} {v1 : Int32} {v2 : Int32} {v3 : Int32} {v4 : Int32} {v5 : Int32} {b : Nat} : ∀ (c : Nat) (v6 : Int32) (v7 : Int32) (v8 : Int32) (v9 : Int32) (J : Nat → Nat → Int32) (L : Nat → Nat → Int64), b ≠ p 25 → b ≠ p 48 → b ≠ p 49 → b ≠ p 50 → b ≠ p 51 → b ≠ p 52 → b ≠ p 53 → b ≠ p 54 → b ≠ p 55 → b ≠ p 56 → b ≠ p 57 → b ≠ p 58 → b ≠ p 59 → b ≠ p 60 → b ≠ p 61 → b ≠ p 62 → b ≠ p 63 → b ≠ p 64 → (x125_85 p sp ln v1 v2 v3 v4 v5 c v6 v7 v8 v9 J L).2.1 b = J b := by
  intro c
  induction c with
  | zero =>
    intro v6 v7 v8 v9 J L n0 n1 n2 n3 n4 n5 n6 n7 n8 n9 n10 n11 n12 n13 n14 n15 n16 n17
    rw [x125_85]
    by_cases h : v5 = 0
    · rw [if_pos h]
      all_goals first | (dsimp only; exact (show J b = J b from rfl)) | exact (show J b = J b from rfl)
    · rw [if_neg h]
      all_goals first | (dsimp only; exact (show J b = J b from rfl)) | exact (show J b = J b from rfl)
  | succ c ih =>
    intro v6 v7 v8 v9 J L n0 n1 n2 n3 n4 n5 n6 n7 n8 n9 n10 n11 n12 n13 n14 n15 n16 n17
    rw [x125_85]
    by_cases h : v2 ≤ v9
    · rw [if_pos h]
      by_cases h : v5 = 0
      · rw [if_pos h]
        all_goals first | (dsimp only; exact (show J b = J b from rfl)) | exact (show J b = J b from rfl)
      · rw [if_neg h]
        all_goals first | (dsimp only; exact (show J b = J b from rfl)) | exact (show J b = J b from rfl)
    · rw [if_neg h]
      exact (ih _ _ _ _ _ _ n0 n1 n2 n3 n4 n5 n6 n7 n8 n9 n10 n11 n12 n13 n14 n15 n16 n17).trans ((x125_114_frJ _ _ _ _ n0 n1 n11 n12 n13 n14 n15 n16 n17).trans ((mu_o n1).trans (x80_frJ  n1 n2 n3 n4 n5 n6 n7 n8 n9 n10 n11 n12 n13 n14 n15 n16 n17)))
theorem x125_frJ {p : Nat → Nat} {sp : Nat} {ln : Nat} {v1 : Int32} {v2 : Int32} {v3 : Int32} {v4 : Int32} {v5 : Int32} {J : Nat → Nat → Int32} {L : Nat → Nat → Int64} {b : Nat} (n0 : b ≠ p 25) (n1 : b ≠ p 48) (n2 : b ≠ p 49) (n3 : b ≠ p 50) (n4 : b ≠ p 51) (n5 : b ≠ p 52) (n6 : b ≠ p 53) (n7 : b ≠ p 54) (n8 : b ≠ p 55) (n9 : b ≠ p 56) (n10 : b ≠ p 57) (n11 : b ≠ p 58) (n12 : b ≠ p 59) (n13 : b ≠ p 60) (n14 : b ≠ p 61) (n15 : b ≠ p 62) (n16 : b ≠ p 63) (n17 : b ≠ p 64) : (x125 p sp ln v1 v2 v3 v4 v5 J L).2.1 b = J b := by
  unfold x125
  by_cases h : (J (p 31) 1) = 0
  · rw [if_pos h]
    all_goals first | (dsimp only; exact (show J b = J b from rfl)) | exact (show J b = J b from rfl)
  · rw [if_neg h]
    by_cases h : (x111 p v1 J) = 0
    · rw [if_pos h]
      all_goals first | (dsimp only; exact (show J b = J b from rfl)) | exact (show J b = J b from rfl)
    · rw [if_neg h]
      by_cases h : v2 < (Int32.ofInt 1)
      · rw [if_pos h]
        all_goals first | (dsimp only; exact (show J b = J b from rfl)) | exact (show J b = J b from rfl)
      · rw [if_neg h]
        by_cases h : (Int32.ofInt 20) < v2
        · rw [if_pos h]
          all_goals first | (dsimp only; exact (show J b = J b from rfl)) | exact (show J b = J b from rfl)
        · rw [if_neg h]
          by_cases h : v3 < (Int32.ofInt 1)
          · rw [if_pos h]
            all_goals first | (dsimp only; exact (show J b = J b from rfl)) | exact (show J b = J b from rfl)
          · rw [if_neg h]
            by_cases h : v3 ≤ (Int32.ofInt 100)
            · rw [if_pos h]
              by_cases h : v4 < 0
              · rw [if_pos h]
                all_goals first | (dsimp only; exact (show J b = J b from rfl)) | exact (show J b = J b from rfl)
              · rw [if_neg h]
                by_cases h : (Int32.ofInt 100) < v4
                · rw [if_pos h]
                  all_goals first | (dsimp only; exact (show J b = J b from rfl)) | exact (show J b = J b from rfl)
                · rw [if_neg h]
                  by_cases h : v5 < 0
                  · rw [if_pos h]
                    all_goals first | (dsimp only; exact (show J b = J b from rfl)) | exact (show J b = J b from rfl)
                  · rw [if_neg h]
                    by_cases h : v5 ≤ (Int32.ofInt 1)
                    · rw [if_pos h]
                      exact (x125_85_frJ _ _ _ _ _ _ _ n0 n1 n2 n3 n4 n5 n6 n7 n8 n9 n10 n11 n12 n13 n14 n15 n16 n17).trans (rfl)
                    · rw [if_neg h]
                      all_goals first | (dsimp only; exact (show J b = J b from rfl)) | exact (show J b = J b from rfl)
            · rw [if_neg h]
              all_goals first | (dsimp only; exact (show J b = J b from rfl)) | exact (show J b = J b from rfl)
/-! .years -/
def x125N_114 (p : Nat → Nat) (v1 : Int32) (v2 : Int32) (v3 : Int32) (v4 : Int32) (v5 : Int32) (v6 : Int32) (v7 : Int32) (v9 : Int32) : Nat → Int32 → (Nat → Nat → Int32) → (Nat → Nat → Int32)
  | 0, v10, J => J
  | c + 1, v10, J => if v3 ≤ v10 then J
    else if (Int32.ofInt 99) < (J (p 48) 2) then J
      else (x125N_114 p v1 v2 v3 v4 v5 v6 v7 v9 c (v10 + (Int32.ofInt 1)) (x81 (fun i => p (48 + i)) v4 (x1N p (fun i => p (48 + i)) J)))
theorem xt125N_114 {X : nt_X} {d : Nat} {M : nt_M} {o : Option Value × nt_M} {p : Nat → Nat} {v1 : Int32} {v2 : Int32} {v3 : Int32} {v4 : Int32} {v5 : Int32} {v6 : Int32} {v7 : Int32} {v8 : Int32} {v9 : Int32} (hp : xs_P M p) (hn : xs_Q M (fun i => p (31 + i))) (hm : xs_Q M (fun i => p (48 + i))) (hk : xs_N M (fun i => p (48 + i))) (h0 : v1 < 0) : ∀ (c : Nat) (v10 : Int32) (J : Nat → Nat → Int32), v3.toInt - v10.toInt ≤ c → nt_rn X d 125 (114, [(0, .ref (p 16)), (1, .int v1), (2, .int v2), (3, .int v3), (4, .int v4), (5, .int v5), (6, .int v6), (7, .int v7), (8, .int v8), (9, .int v9), (10, .int v10)], [], me_w M J) o → ∃ (w10 : Int32), nt_rn X d 125 (163, [(0, .ref (p 16)), (1, .int v1), (2, .int v2), (3, .int v3), (4, .int v4), (5, .int v5), (6, .int v6), (7, .int v7), (8, .int v8), (9, .int v9), (10, .int w10)], [], me_w M (x125N_114 p v1 v2 v3 v4 v5 v6 v7 v9 c v10 J)) o := by
  intro c
  induction c with
  | zero =>
    intro v10 J hc k
    have k := ly_revb 3 (c' := (if v3 ≤ v10 then 163 else 120, [(0, .ref (p 16)), (1, .int v1), (2, .int v2), (3, .int v3), (4, .int v4), (5, .int v5), (6, .int v6), (7, .int v7), (8, .int v8), (9, .int v9), (10, .int v10)], [], me_w M J)) rfl k
    have h117 : v3 ≤ v10 := lx_end hc
    rw [if_pos h117] at k
    have k := nt_rn_w (a := [(0, .ref (p 16)), (1, .int v1), (2, .int v2), (3, .int v3), (4, .int v4), (5, .int v5), (6, .int v6), (7, .int v7), (8, .int v8), (9, .int v9), (10, .int v10)]) (b := [(0, .ref (p 16)), (1, .int v1), (2, .int v2), (3, .int v3), (4, .int v4), (5, .int v5), (6, .int v6), (7, .int v7), (8, .int v8), (9, .int v9), (10, .int v10)]) ⟨rfl, rfl, rfl, rfl, rfl, rfl, rfl, rfl, rfl, rfl, rfl, trivial⟩ rfl k
    rw [x125N_114]
    exact ⟨_, k⟩
  | succ c ih =>
    intro v10 J hc k
    have k := ly_revb 3 (c' := (if v3 ≤ v10 then 163 else 120, [(0, .ref (p 16)), (1, .int v1), (2, .int v2), (3, .int v3), (4, .int v4), (5, .int v5), (6, .int v6), (7, .int v7), (8, .int v8), (9, .int v9), (10, .int v10)], [], me_w M J)) rfl k
    by_cases h117 : v3 ≤ v10
    · rw [if_pos h117] at k
      have k := nt_rn_w (a := [(0, .ref (p 16)), (1, .int v1), (2, .int v2), (3, .int v3), (4, .int v4), (5, .int v5), (6, .int v6), (7, .int v7), (8, .int v8), (9, .int v9), (10, .int v10)]) (b := [(0, .ref (p 16)), (1, .int v1), (2, .int v2), (3, .int v3), (4, .int v4), (5, .int v5), (6, .int v6), (7, .int v7), (8, .int v8), (9, .int v9), (10, .int v10)]) ⟨rfl, rfl, rfl, rfl, rfl, rfl, rfl, rfl, rfl, rfl, rfl, trivial⟩ rfl k
      rw [x125N_114, if_pos h117]
      exact ⟨_, k⟩
    · rw [if_neg h117] at k
      have k := ly_revb 1 (c' := (121, [(0, .ref (p 16)), (1, .int v1), (2, .int v2), (3, .int v3), (4, .int v4), (5, .int v5), (6, .int v6), (7, .int v7), (8, .int v8), (9, .int v9), (10, .int v10)], [.ref (p 16)], me_w M J)) rfl k
      have k := lz_get (a := (p 16)) (g := 1008) (M := me_w M J) (v := .ref (p 48)) rfl (nt_gfR rfl (hp.1 (16, 8, 48) (by decide))) k
      have k := lz_get (a := (p 48)) (g := 602) (M := me_w M J) (v := .int (J (p 48) 2)) rfl (congrArg Value.int (rfl)) k
      have k := ly_revb 2 (c' := (if (Int32.ofInt 99) < (J (p 48) 2) then 163 else 132, [(0, .ref (p 16)), (1, .int v1), (2, .int v2), (3, .int v3), (4, .int v4), (5, .int v5), (6, .int v6), (7, .int v7), (8, .int v8), (9, .int v9), (10, .int v10)], [], me_w M J)) rfl k
      by_cases h129 : (Int32.ofInt 99) < (J (p 48) 2)
      · rw [if_pos h129] at k
        have k := nt_rn_w (a := [(0, .ref (p 16)), (1, .int v1), (2, .int v2), (3, .int v3), (4, .int v4), (5, .int v5), (6, .int v6), (7, .int v7), (8, .int v8), (9, .int v9), (10, .int v10)]) (b := [(0, .ref (p 16)), (1, .int v1), (2, .int v2), (3, .int v3), (4, .int v4), (5, .int v5), (6, .int v6), (7, .int v7), (8, .int v8), (9, .int v9), (10, .int v10)]) ⟨rfl, rfl, rfl, rfl, rfl, rfl, rfl, rfl, rfl, rfl, rfl, trivial⟩ rfl k
        rw [x125N_114, if_neg h117, if_pos h129]
        exact ⟨_, k⟩
      · rw [if_neg h129] at k
        have k := ly_revb 1 (c' := (133, [(0, .ref (p 16)), (1, .int v1), (2, .int v2), (3, .int v3), (4, .int v4), (5, .int v5), (6, .int v6), (7, .int v7), (8, .int v8), (9, .int v9), (10, .int v10)], [.ref (p 16)], me_w M J)) rfl k
        have k := lz_get (a := (p 16)) (g := 1005) (M := me_w M J) (v := .ref (p 24)) rfl (nt_gfR rfl (hp.1 (16, 5, 24) (by decide))) k
        have k := ly_revb 1 (c' := (137, [(0, .ref (p 16)), (1, .int v1), (2, .int v2), (3, .int v3), (4, .int v4), (5, .int v5), (6, .int v6), (7, .int v7), (8, .int v8), (9, .int v9), (10, .int v10)], [.ref (p 16), .ref (p 24)], me_w M J)) rfl k
        have k := lz_get (a := (p 16)) (g := 1008) (M := me_w M J) (v := .ref (p 48)) rfl (nt_gfR rfl (hp.1 (16, 8, 48) (by decide))) k
        have k := ly_revb 2 (c' := (142, [(0, .ref (p 16)), (1, .int v1), (2, .int v2), (3, .int v3), (4, .int v4), (5, .int v5), (6, .int v6), (7, .int v7), (8, .int v8), (9, .int v9), (10, .int v10)], [.int v1, .ref (p 16), .ref (p 48), .ref (p 24)], me_w M J)) rfl k
        obtain ⟨d1, o1, ed, kc, k⟩ := lz_c (g := 112) (q := 1) (vs := [.ref (p 16), .int v1]) (rest := [.ref (p 48), .ref (p 24)]) rfl rfl (by decide) (Or.inr (Or.inl ⟨_, rfl, rfl⟩)) rfl k
        have e1 := xr112N h0 kc
        subst e1
        have k : nt_rn X _ 125 (145, [(0, .ref (p 16)), (1, .int v1), (2, .int v2), (3, .int v3), (4, .int v4), (5, .int v5), (6, .int v6), (7, .int v7), (8, .int v8), (9, .int v9), (10, .int v10)], [.null, .ref (p 48), .ref (p 24)], me_w M J) _ := k
        obtain ⟨d1, o1, ed, kc, k⟩ := lz_c (g := 1) (q := 1) (vs := [.ref (p 24), .ref (p 48), .null]) (rest := []) rfl rfl (by decide) (Or.inr (Or.inl ⟨_, rfl, rfl⟩)) rfl k
        have e1 := xt1N hp hm (xs_x48 hp) kc
        subst e1
        have k : nt_rn X _ 125 (148, [(0, .ref (p 16)), (1, .int v1), (2, .int v2), (3, .int v3), (4, .int v4), (5, .int v5), (6, .int v6), (7, .int v7), (8, .int v8), (9, .int v9), (10, .int v10)], [], me_w M (x1N p (fun i => p (48 + i)) J)) _ := k
        have k := ly_revb 1 (c' := (149, [(0, .ref (p 16)), (1, .int v1), (2, .int v2), (3, .int v3), (4, .int v4), (5, .int v5), (6, .int v6), (7, .int v7), (8, .int v8), (9, .int v9), (10, .int v10)], [.ref (p 16)], me_w M (x1N p (fun i => p (48 + i)) J))) rfl k
        have k := lz_get (a := (p 16)) (g := 1008) (M := me_w M (x1N p (fun i => p (48 + i)) J)) (v := .ref (p 48)) rfl (nt_gfR rfl (hp.1 (16, 8, 48) (by decide))) k
        have k := ly_revb 1 (c' := (154, [(0, .ref (p 16)), (1, .int v1), (2, .int v2), (3, .int v3), (4, .int v4), (5, .int v5), (6, .int v6), (7, .int v7), (8, .int v8), (9, .int v9), (10, .int v10)], [.int v4, .ref (p 48)], me_w M (x1N p (fun i => p (48 + i)) J))) rfl k
        obtain ⟨d1, o1, ed, kc, k⟩ := lz_c (g := 81) (q := 1) (vs := [.ref (p 48), .int v4]) (rest := []) rfl rfl (by decide) (Or.inr (Or.inl ⟨_, rfl, rfl⟩)) rfl k
        have e1 := xt81 hm kc
        subst e1
        have k : nt_rn X _ 125 (157, [(0, .ref (p 16)), (1, .int v1), (2, .int v2), (3, .int v3), (4, .int v4), (5, .int v5), (6, .int v6), (7, .int v7), (8, .int v8), (9, .int v9), (10, .int v10)], [], me_w M (x81 (fun i => p (48 + i)) v4 (x1N p (fun i => p (48 + i)) J))) _ := k
        have k := ly_revb 2 (c' := (114, [(10, .int (v10 + (Int32.ofInt 1))), (0, .ref (p 16)), (1, .int v1), (2, .int v2), (3, .int v3), (4, .int v4), (5, .int v5), (6, .int v6), (7, .int v7), (8, .int v8), (9, .int v9)], [], me_w M (x81 (fun i => p (48 + i)) v4 (x1N p (fun i => p (48 + i)) J)))) rfl k
        have k := nt_rn_w (a := [(10, .int (v10 + (Int32.ofInt 1))), (0, .ref (p 16)), (1, .int v1), (2, .int v2), (3, .int v3), (4, .int v4), (5, .int v5), (6, .int v6), (7, .int v7), (8, .int v8), (9, .int v9)]) (b := [(0, .ref (p 16)), (1, .int v1), (2, .int v2), (3, .int v3), (4, .int v4), (5, .int v5), (6, .int v6), (7, .int v7), (8, .int v8), (9, .int v9), (10, .int (v10 + (Int32.ofInt 1)))]) ⟨rfl, rfl, rfl, rfl, rfl, rfl, rfl, rfl, rfl, rfl, rfl, trivial⟩ rfl k
        have k := ih (v10 + (Int32.ofInt 1)) (x81 (fun i => p (48 + i)) v4 (x1N p (fun i => p (48 + i)) J)) (lx_dec h117 hc) k
        rw [x125N_114, if_neg h117, if_neg h129]
        exact k
theorem x125N_114_frJ {p : Nat → Nat} {v1 : Int32} {v2 : Int32} {v3 : Int32} {v4 : Int32} {v5 : Int32} {v6 : Int32} {v7 : Int32} {v9 : Int32} {b : Nat} : ∀ (c : Nat) (v10 : Int32) (J : Nat → Nat → Int32), b ≠ p 48 → b ≠ p 58 → b ≠ p 59 → b ≠ p 60 → b ≠ p 61 → b ≠ p 63 → b ≠ p 64 → x125N_114 p v1 v2 v3 v4 v5 v6 v7 v9 c v10 J b = J b := by
  intro c
  induction c with
  | zero =>
    intro v10 J n0 n1 n2 n3 n4 n5 n6
    rw [x125N_114]
    all_goals first | (dsimp only; exact (show J b = J b from rfl)) | exact (show J b = J b from rfl)
  | succ c ih =>
    intro v10 J n0 n1 n2 n3 n4 n5 n6
    rw [x125N_114]
    by_cases h : v3 ≤ v10
    · rw [if_pos h]
      all_goals first | (dsimp only; exact (show J b = J b from rfl)) | exact (show J b = J b from rfl)
    · rw [if_neg h]
      by_cases h : (Int32.ofInt 99) < (J (p 48) 2)
      · rw [if_pos h]
        all_goals first | (dsimp only; exact (show J b = J b from rfl)) | exact (show J b = J b from rfl)
      · rw [if_neg h]
        exact (ih _ _ n0 n1 n2 n3 n4 n5 n6).trans ((x81_frJ  n0 n4).trans (x1N_frJ  n0 n1 n2 n3 n4 n5 n6))
def x125N_85 (p : Nat → Nat) (v1 : Int32) (v2 : Int32) (v3 : Int32) (v4 : Int32) (v5 : Int32) : Nat → Int32 → Int32 → Int32 → Int32 → (Nat → Nat → Int32) → Int32 × (Nat → Nat → Int32)
  | 0, v6, v7, v8, v9, J => if v5 = 0 then (v6, J)
    else (v7, J)
  | c + 1, v6, v7, v8, v9, J => if v2 ≤ v9 then if v5 = 0 then (v6, J)
      else (v7, J)
    else (x125N_85 p v1 v2 v3 v4 v5 c (v6 + (((x125N_114 p v1 v2 v3 v4 v5 v6 v7 v9 v3.toNatClampNeg (Int32.ofInt 0) (nt_u (x80 (fun i => p (48 + i)) (fun i => p (31 + i)) J) (p 48) 6 v8)) (p 48) 5) - (J (p 31) 5))) (v7 + (x236 (x79 (fun i => p (48 + i)) (x125N_114 p v1 v2 v3 v4 v5 v6 v7 v9 v3.toNatClampNeg (Int32.ofInt 0) (nt_u (x80 (fun i => p (48 + i)) (fun i => p (31 + i)) J) (p 48) 6 v8))))) ((x125N_114 p v1 v2 v3 v4 v5 v6 v7 v9 v3.toNatClampNeg (Int32.ofInt 0) (nt_u (x80 (fun i => p (48 + i)) (fun i => p (31 + i)) J) (p 48) 6 v8)) (p 48) 6) (v9 + (Int32.ofInt 1)) (x125N_114 p v1 v2 v3 v4 v5 v6 v7 v9 v3.toNatClampNeg (Int32.ofInt 0) (nt_u (x80 (fun i => p (48 + i)) (fun i => p (31 + i)) J) (p 48) 6 v8)))
theorem xt125N_85 {X : nt_X} {d : Nat} {M : nt_M} {o : Option Value × nt_M} {p : Nat → Nat} {v1 : Int32} {v2 : Int32} {v3 : Int32} {v4 : Int32} {v5 : Int32} (hp : xs_P M p) (hn : xs_Q M (fun i => p (31 + i))) (hm : xs_Q M (fun i => p (48 + i))) (hk : xs_N M (fun i => p (48 + i))) (h0 : v1 < 0) : ∀ (c : Nat) (v6 : Int32) (v7 : Int32) (v8 : Int32) (v9 : Int32) (v10 : Int32) (J : Nat → Nat → Int32), v2.toInt - v9.toInt ≤ c → nt_rn X d 125 (85, [(0, .ref (p 16)), (1, .int v1), (2, .int v2), (3, .int v3), (4, .int v4), (5, .int v5), (6, .int v6), (7, .int v7), (8, .int v8), (9, .int v9), (10, .int v10)], [], me_w M J) o → o = (some (.int ((x125N_85 p v1 v2 v3 v4 v5 c v6 v7 v8 v9 J).1)), me_w M ((x125N_85 p v1 v2 v3 v4 v5 c v6 v7 v8 v9 J).2)) := by
  intro c
  induction c with
  | zero =>
    intro v6 v7 v8 v9 v10 J hc k
    have k := ly_revb 3 (c' := (if v2 ≤ v9 then 213 else 91, [(0, .ref (p 16)), (1, .int v1), (2, .int v2), (3, .int v3), (4, .int v4), (5, .int v5), (6, .int v6), (7, .int v7), (8, .int v8), (9, .int v9), (10, .int v10)], [], me_w M J)) rfl k
    have h88 : v2 ≤ v9 := lx_end hc
    rw [if_pos h88] at k
    have k := ly_revb 2 (c' := (if v5 = 0 then 218 else 223, [(0, .ref (p 16)), (1, .int v1), (2, .int v2), (3, .int v3), (4, .int v4), (5, .int v5), (6, .int v6), (7, .int v7), (8, .int v8), (9, .int v9), (10, .int v10)], [], me_w M J)) rfl k
    by_cases h215 : v5 = 0
    · rw [if_pos h215] at k
      have k := ly_revb 2 (c' := (225, [(0, .ref (p 16)), (1, .int v1), (2, .int v2), (3, .int v3), (4, .int v4), (5, .int v5), (6, .int v6), (7, .int v7), (8, .int v8), (9, .int v9), (10, .int v10)], [.int v6], me_w M J)) rfl k
      have k := lz_ri rfl (by decide) k
      rw [k, x125N_85, if_pos h215]
    · rw [if_neg h215] at k
      have k := ly_revb 1 (c' := (225, [(0, .ref (p 16)), (1, .int v1), (2, .int v2), (3, .int v3), (4, .int v4), (5, .int v5), (6, .int v6), (7, .int v7), (8, .int v8), (9, .int v9), (10, .int v10)], [.int v7], me_w M J)) rfl k
      have k := lz_ri rfl (by decide) k
      rw [k, x125N_85, if_neg h215]
  | succ c ih =>
    intro v6 v7 v8 v9 v10 J hc k
    have k := ly_revb 3 (c' := (if v2 ≤ v9 then 213 else 91, [(0, .ref (p 16)), (1, .int v1), (2, .int v2), (3, .int v3), (4, .int v4), (5, .int v5), (6, .int v6), (7, .int v7), (8, .int v8), (9, .int v9), (10, .int v10)], [], me_w M J)) rfl k
    by_cases h88 : v2 ≤ v9
    · rw [if_pos h88] at k
      have k := ly_revb 2 (c' := (if v5 = 0 then 218 else 223, [(0, .ref (p 16)), (1, .int v1), (2, .int v2), (3, .int v3), (4, .int v4), (5, .int v5), (6, .int v6), (7, .int v7), (8, .int v8), (9, .int v9), (10, .int v10)], [], me_w M J)) rfl k
      by_cases h215 : v5 = 0
      · rw [if_pos h215] at k
        have k := ly_revb 2 (c' := (225, [(0, .ref (p 16)), (1, .int v1), (2, .int v2), (3, .int v3), (4, .int v4), (5, .int v5), (6, .int v6), (7, .int v7), (8, .int v8), (9, .int v9), (10, .int v10)], [.int v6], me_w M J)) rfl k
        have k := lz_ri rfl (by decide) k
        rw [k, x125N_85, if_pos h88, if_pos h215]
      · rw [if_neg h215] at k
        have k := ly_revb 1 (c' := (225, [(0, .ref (p 16)), (1, .int v1), (2, .int v2), (3, .int v3), (4, .int v4), (5, .int v5), (6, .int v6), (7, .int v7), (8, .int v8), (9, .int v9), (10, .int v10)], [.int v7], me_w M J)) rfl k
        have k := lz_ri rfl (by decide) k
        rw [k, x125N_85, if_pos h88, if_neg h215]
    · rw [if_neg h88] at k
      have k := ly_revb 1 (c' := (92, [(0, .ref (p 16)), (1, .int v1), (2, .int v2), (3, .int v3), (4, .int v4), (5, .int v5), (6, .int v6), (7, .int v7), (8, .int v8), (9, .int v9), (10, .int v10)], [.ref (p 16)], me_w M J)) rfl k
      have k := lz_get (a := (p 16)) (g := 1008) (M := me_w M J) (v := .ref (p 48)) rfl (nt_gfR rfl (hp.1 (16, 8, 48) (by decide))) k
      have k := ly_revb 1 (c' := (96, [(0, .ref (p 16)), (1, .int v1), (2, .int v2), (3, .int v3), (4, .int v4), (5, .int v5), (6, .int v6), (7, .int v7), (8, .int v8), (9, .int v9), (10, .int v10)], [.ref (p 16), .ref (p 48)], me_w M J)) rfl k
      have k := lz_get (a := (p 16)) (g := 1007) (M := me_w M J) (v := .ref (p 31)) rfl (nt_gfR rfl (hp.1 (16, 7, 31) (by decide))) k
      obtain ⟨d1, o1, ed, kc, k⟩ := lz_c (g := 80) (q := 1) (vs := [.ref (p 48), .ref (p 31)]) (rest := []) rfl rfl (by decide) (Or.inr (Or.inl ⟨_, rfl, rfl⟩)) rfl k
      have e1 := xt80 hm hn (xs_d48 hp) hk kc
      subst e1
      have k : nt_rn X _ 125 (102, [(0, .ref (p 16)), (1, .int v1), (2, .int v2), (3, .int v3), (4, .int v4), (5, .int v5), (6, .int v6), (7, .int v7), (8, .int v8), (9, .int v9), (10, .int v10)], [], me_w M (x80 (fun i => p (48 + i)) (fun i => p (31 + i)) J)) _ := k
      have k := ly_revb 1 (c' := (103, [(0, .ref (p 16)), (1, .int v1), (2, .int v2), (3, .int v3), (4, .int v4), (5, .int v5), (6, .int v6), (7, .int v7), (8, .int v8), (9, .int v9), (10, .int v10)], [.ref (p 16)], me_w M (x80 (fun i => p (48 + i)) (fun i => p (31 + i)) J))) rfl k
      have k := lz_get (a := (p 16)) (g := 1008) (M := me_w M (x80 (fun i => p (48 + i)) (fun i => p (31 + i)) J)) (v := .ref (p 48)) rfl (nt_gfR rfl (hp.1 (16, 8, 48) (by decide))) k
      have k := ly_revb 1 (c' := (108, [(0, .ref (p 16)), (1, .int v1), (2, .int v2), (3, .int v3), (4, .int v4), (5, .int v5), (6, .int v6), (7, .int v7), (8, .int v8), (9, .int v9), (10, .int v10)], [.int v8, .ref (p 48)], me_w M (x80 (fun i => p (48 + i)) (fun i => p (31 + i)) J))) rfl k
      have k := me_put rfl (by decide) k
      have k : nt_rn X _ 125 (111, [(0, .ref (p 16)), (1, .int v1), (2, .int v2), (3, .int v3), (4, .int v4), (5, .int v5), (6, .int v6), (7, .int v7), (8, .int v8), (9, .int v9), (10, .int v10)], [], me_w M (nt_u (x80 (fun i => p (48 + i)) (fun i => p (31 + i)) J) (p 48) 6 v8)) _ := k
      have k := ly_revb 2 (c' := (114, [(10, .int (Int32.ofInt 0)), (0, .ref (p 16)), (1, .int v1), (2, .int v2), (3, .int v3), (4, .int v4), (5, .int v5), (6, .int v6), (7, .int v7), (8, .int v8), (9, .int v9)], [], me_w M (nt_u (x80 (fun i => p (48 + i)) (fun i => p (31 + i)) J) (p 48) 6 v8))) rfl k
      have k := nt_rn_w (a := [(10, .int (Int32.ofInt 0)), (0, .ref (p 16)), (1, .int v1), (2, .int v2), (3, .int v3), (4, .int v4), (5, .int v5), (6, .int v6), (7, .int v7), (8, .int v8), (9, .int v9)]) (b := [(0, .ref (p 16)), (1, .int v1), (2, .int v2), (3, .int v3), (4, .int v4), (5, .int v5), (6, .int v6), (7, .int v7), (8, .int v8), (9, .int v9), (10, .int (Int32.ofInt 0))]) ⟨rfl, rfl, rfl, rfl, rfl, rfl, rfl, rfl, rfl, rfl, rfl, trivial⟩ rfl k
      have k := xt125N_114 hp hn hm hk h0  v3.toNatClampNeg (Int32.ofInt 0) (nt_u (x80 (fun i => p (48 + i)) (fun i => p (31 + i)) J) (p 48) 6 v8) (lx_beg (by decide)) k
      obtain ⟨w10, k⟩ := k
      have k : nt_rn X _ 125 (163, [(0, .ref (p 16)), (1, .int v1), (2, .int v2), (3, .int v3), (4, .int v4), (5, .int v5), (6, .int v6), (7, .int v7), (8, .int v8), (9, .int v9), (10, .int w10)], [], me_w M (x125N_114 p v1 v2 v3 v4 v5 v6 v7 v9 v3.toNatClampNeg (Int32.ofInt 0) (nt_u (x80 (fun i => p (48 + i)) (fun i => p (31 + i)) J) (p 48) 6 v8))) _ := k
      have k := ly_revb 1 (c' := (164, [(0, .ref (p 16)), (1, .int v1), (2, .int v2), (3, .int v3), (4, .int v4), (5, .int v5), (6, .int v6), (7, .int v7), (8, .int v8), (9, .int v9), (10, .int w10)], [.ref (p 16)], me_w M (x125N_114 p v1 v2 v3 v4 v5 v6 v7 v9 v3.toNatClampNeg (Int32.ofInt 0) (nt_u (x80 (fun i => p (48 + i)) (fun i => p (31 + i)) J) (p 48) 6 v8)))) rfl k
      have k := lz_get (a := (p 16)) (g := 1008) (M := me_w M (x125N_114 p v1 v2 v3 v4 v5 v6 v7 v9 v3.toNatClampNeg (Int32.ofInt 0) (nt_u (x80 (fun i => p (48 + i)) (fun i => p (31 + i)) J) (p 48) 6 v8))) (v := .ref (p 48)) rfl (nt_gfR rfl (hp.1 (16, 8, 48) (by decide))) k
      have k := lz_get (a := (p 48)) (g := 606) (M := me_w M (x125N_114 p v1 v2 v3 v4 v5 v6 v7 v9 v3.toNatClampNeg (Int32.ofInt 0) (nt_u (x80 (fun i => p (48 + i)) (fun i => p (31 + i)) J) (p 48) 6 v8))) (v := .int ((x125N_114 p v1 v2 v3 v4 v5 v6 v7 v9 v3.toNatClampNeg (Int32.ofInt 0) (nt_u (x80 (fun i => p (48 + i)) (fun i => p (31 + i)) J) (p 48) 6 v8)) (p 48) 6)) rfl (congrArg Value.int (rfl)) k
      have k := ly_revb 3 (c' := (175, [(8, .int ((x125N_114 p v1 v2 v3 v4 v5 v6 v7 v9 v3.toNatClampNeg (Int32.ofInt 0) (nt_u (x80 (fun i => p (48 + i)) (fun i => p (31 + i)) J) (p 48) 6 v8)) (p 48) 6)), (0, .ref (p 16)), (1, .int v1), (2, .int v2), (3, .int v3), (4, .int v4), (5, .int v5), (6, .int v6), (7, .int v7), (9, .int v9), (10, .int w10)], [.ref (p 16), .int v6], me_w M (x125N_114 p v1 v2 v3 v4 v5 v6 v7 v9 v3.toNatClampNeg (Int32.ofInt 0) (nt_u (x80 (fun i => p (48 + i)) (fun i => p (31 + i)) J) (p 48) 6 v8)))) rfl k
      have k := lz_get (a := (p 16)) (g := 1008) (M := me_w M (x125N_114 p v1 v2 v3 v4 v5 v6 v7 v9 v3.toNatClampNeg (Int32.ofInt 0) (nt_u (x80 (fun i => p (48 + i)) (fun i => p (31 + i)) J) (p 48) 6 v8))) (v := .ref (p 48)) rfl (nt_gfR rfl (hp.1 (16, 8, 48) (by decide))) k
      have k := lz_get (a := (p 48)) (g := 605) (M := me_w M (x125N_114 p v1 v2 v3 v4 v5 v6 v7 v9 v3.toNatClampNeg (Int32.ofInt 0) (nt_u (x80 (fun i => p (48 + i)) (fun i => p (31 + i)) J) (p 48) 6 v8))) (v := .int ((x125N_114 p v1 v2 v3 v4 v5 v6 v7 v9 v3.toNatClampNeg (Int32.ofInt 0) (nt_u (x80 (fun i => p (48 + i)) (fun i => p (31 + i)) J) (p 48) 6 v8)) (p 48) 5)) rfl (congrArg Value.int (rfl)) k
      have k := ly_revb 1 (c' := (182, [(8, .int ((x125N_114 p v1 v2 v3 v4 v5 v6 v7 v9 v3.toNatClampNeg (Int32.ofInt 0) (nt_u (x80 (fun i => p (48 + i)) (fun i => p (31 + i)) J) (p 48) 6 v8)) (p 48) 6)), (0, .ref (p 16)), (1, .int v1), (2, .int v2), (3, .int v3), (4, .int v4), (5, .int v5), (6, .int v6), (7, .int v7), (9, .int v9), (10, .int w10)], [.ref (p 16), .int ((x125N_114 p v1 v2 v3 v4 v5 v6 v7 v9 v3.toNatClampNeg (Int32.ofInt 0) (nt_u (x80 (fun i => p (48 + i)) (fun i => p (31 + i)) J) (p 48) 6 v8)) (p 48) 5), .int v6], me_w M (x125N_114 p v1 v2 v3 v4 v5 v6 v7 v9 v3.toNatClampNeg (Int32.ofInt 0) (nt_u (x80 (fun i => p (48 + i)) (fun i => p (31 + i)) J) (p 48) 6 v8)))) rfl k
      have k := lz_get (a := (p 16)) (g := 1007) (M := me_w M (x125N_114 p v1 v2 v3 v4 v5 v6 v7 v9 v3.toNatClampNeg (Int32.ofInt 0) (nt_u (x80 (fun i => p (48 + i)) (fun i => p (31 + i)) J) (p 48) 6 v8))) (v := .ref (p 31)) rfl (nt_gfR rfl (hp.1 (16, 7, 31) (by decide))) k
      have k := lz_get (a := (p 31)) (g := 605) (M := me_w M (x125N_114 p v1 v2 v3 v4 v5 v6 v7 v9 v3.toNatClampNeg (Int32.ofInt 0) (nt_u (x80 (fun i => p (48 + i)) (fun i => p (31 + i)) J) (p 48) 6 v8))) (v := .int (J (p 31) 5)) rfl (congrArg Value.int ((congrFun (x125N_114_frJ _ _ _ (hp.2.1 31 48 (by omega) (by omega) (by decide)) (hp.2.1 31 58 (by omega) (by omega) (by decide)) (hp.2.1 31 59 (by omega) (by omega) (by decide)) (hp.2.1 31 60 (by omega) (by omega) (by decide)) (hp.2.1 31 61 (by omega) (by omega) (by decide)) (hp.2.1 31 63 (by omega) (by omega) (by decide)) (hp.2.1 31 64 (by omega) (by omega) (by decide))) 5).trans ((mu_j (hp.2.1 31 48 (by omega) (by omega) (by decide))).trans (congrFun (x80_frJ  (hp.2.1 31 48 (by omega) (by omega) (by decide)) (hp.2.1 31 49 (by omega) (by omega) (by decide)) (hp.2.1 31 50 (by omega) (by omega) (by decide)) (hp.2.1 31 51 (by omega) (by omega) (by decide)) (hp.2.1 31 52 (by omega) (by omega) (by decide)) (hp.2.1 31 53 (by omega) (by omega) (by decide)) (hp.2.1 31 54 (by omega) (by omega) (by decide)) (hp.2.1 31 55 (by omega) (by omega) (by decide)) (hp.2.1 31 56 (by omega) (by omega) (by decide)) (hp.2.1 31 57 (by omega) (by omega) (by decide)) (hp.2.1 31 58 (by omega) (by omega) (by decide)) (hp.2.1 31 59 (by omega) (by omega) (by decide)) (hp.2.1 31 60 (by omega) (by omega) (by decide)) (hp.2.1 31 61 (by omega) (by omega) (by decide)) (hp.2.1 31 62 (by omega) (by omega) (by decide)) (hp.2.1 31 63 (by omega) (by omega) (by decide)) (hp.2.1 31 64 (by omega) (by omega) (by decide))) 5)))) k
      have k := ly_revb 5 (c' := (195, [(6, .int (v6 + (((x125N_114 p v1 v2 v3 v4 v5 v6 v7 v9 v3.toNatClampNeg (Int32.ofInt 0) (nt_u (x80 (fun i => p (48 + i)) (fun i => p (31 + i)) J) (p 48) 6 v8)) (p 48) 5) - (J (p 31) 5)))), (8, .int ((x125N_114 p v1 v2 v3 v4 v5 v6 v7 v9 v3.toNatClampNeg (Int32.ofInt 0) (nt_u (x80 (fun i => p (48 + i)) (fun i => p (31 + i)) J) (p 48) 6 v8)) (p 48) 6)), (0, .ref (p 16)), (1, .int v1), (2, .int v2), (3, .int v3), (4, .int v4), (5, .int v5), (7, .int v7), (9, .int v9), (10, .int w10)], [.ref (p 16), .int v7], me_w M (x125N_114 p v1 v2 v3 v4 v5 v6 v7 v9 v3.toNatClampNeg (Int32.ofInt 0) (nt_u (x80 (fun i => p (48 + i)) (fun i => p (31 + i)) J) (p 48) 6 v8)))) rfl k
      have k := lz_get (a := (p 16)) (g := 1008) (M := me_w M (x125N_114 p v1 v2 v3 v4 v5 v6 v7 v9 v3.toNatClampNeg (Int32.ofInt 0) (nt_u (x80 (fun i => p (48 + i)) (fun i => p (31 + i)) J) (p 48) 6 v8))) (v := .ref (p 48)) rfl (nt_gfR rfl (hp.1 (16, 8, 48) (by decide))) k
      obtain ⟨d1, o1, ed, kc, k⟩ := lz_c (g := 79) (q := 1) (vs := [.ref (p 48)]) (rest := [.int v7]) rfl rfl (by decide) (Or.inr (Or.inl ⟨_, rfl, rfl⟩)) rfl k
      have e1 := xt79 hm kc
      subst e1
      have k : nt_rn X _ 125 (201, [(6, .int (v6 + (((x125N_114 p v1 v2 v3 v4 v5 v6 v7 v9 v3.toNatClampNeg (Int32.ofInt 0) (nt_u (x80 (fun i => p (48 + i)) (fun i => p (31 + i)) J) (p 48) 6 v8)) (p 48) 5) - (J (p 31) 5)))), (8, .int ((x125N_114 p v1 v2 v3 v4 v5 v6 v7 v9 v3.toNatClampNeg (Int32.ofInt 0) (nt_u (x80 (fun i => p (48 + i)) (fun i => p (31 + i)) J) (p 48) 6 v8)) (p 48) 6)), (0, .ref (p 16)), (1, .int v1), (2, .int v2), (3, .int v3), (4, .int v4), (5, .int v5), (7, .int v7), (9, .int v9), (10, .int w10)], [.int (x79 (fun i => p (48 + i)) (x125N_114 p v1 v2 v3 v4 v5 v6 v7 v9 v3.toNatClampNeg (Int32.ofInt 0) (nt_u (x80 (fun i => p (48 + i)) (fun i => p (31 + i)) J) (p 48) 6 v8))), .int v7], me_w M (x125N_114 p v1 v2 v3 v4 v5 v6 v7 v9 v3.toNatClampNeg (Int32.ofInt 0) (nt_u (x80 (fun i => p (48 + i)) (fun i => p (31 + i)) J) (p 48) 6 v8))) _ := k
      obtain ⟨d1, o1, ed, kc, k⟩ := lz_c (g := 236) (q := 0) (vs := [.int (x79 (fun i => p (48 + i)) (x125N_114 p v1 v2 v3 v4 v5 v6 v7 v9 v3.toNatClampNeg (Int32.ofInt 0) (nt_u (x80 (fun i => p (48 + i)) (fun i => p (31 + i)) J) (p 48) 6 v8)))]) (rest := [.int v7]) rfl rfl (by decide) (Or.inl ⟨_, rfl, rfl⟩) rfl k
      have e1 := xt236  kc
      subst e1
      have k : nt_rn X _ 125 (204, [(6, .int (v6 + (((x125N_114 p v1 v2 v3 v4 v5 v6 v7 v9 v3.toNatClampNeg (Int32.ofInt 0) (nt_u (x80 (fun i => p (48 + i)) (fun i => p (31 + i)) J) (p 48) 6 v8)) (p 48) 5) - (J (p 31) 5)))), (8, .int ((x125N_114 p v1 v2 v3 v4 v5 v6 v7 v9 v3.toNatClampNeg (Int32.ofInt 0) (nt_u (x80 (fun i => p (48 + i)) (fun i => p (31 + i)) J) (p 48) 6 v8)) (p 48) 6)), (0, .ref (p 16)), (1, .int v1), (2, .int v2), (3, .int v3), (4, .int v4), (5, .int v5), (7, .int v7), (9, .int v9), (10, .int w10)], [.int (x236 (x79 (fun i => p (48 + i)) (x125N_114 p v1 v2 v3 v4 v5 v6 v7 v9 v3.toNatClampNeg (Int32.ofInt 0) (nt_u (x80 (fun i => p (48 + i)) (fun i => p (31 + i)) J) (p 48) 6 v8)))), .int v7], me_w M (x125N_114 p v1 v2 v3 v4 v5 v6 v7 v9 v3.toNatClampNeg (Int32.ofInt 0) (nt_u (x80 (fun i => p (48 + i)) (fun i => p (31 + i)) J) (p 48) 6 v8))) _ := k
      have k := ly_revb 4 (c' := (85, [(9, .int (v9 + (Int32.ofInt 1))), (7, .int (v7 + (x236 (x79 (fun i => p (48 + i)) (x125N_114 p v1 v2 v3 v4 v5 v6 v7 v9 v3.toNatClampNeg (Int32.ofInt 0) (nt_u (x80 (fun i => p (48 + i)) (fun i => p (31 + i)) J) (p 48) 6 v8)))))), (6, .int (v6 + (((x125N_114 p v1 v2 v3 v4 v5 v6 v7 v9 v3.toNatClampNeg (Int32.ofInt 0) (nt_u (x80 (fun i => p (48 + i)) (fun i => p (31 + i)) J) (p 48) 6 v8)) (p 48) 5) - (J (p 31) 5)))), (8, .int ((x125N_114 p v1 v2 v3 v4 v5 v6 v7 v9 v3.toNatClampNeg (Int32.ofInt 0) (nt_u (x80 (fun i => p (48 + i)) (fun i => p (31 + i)) J) (p 48) 6 v8)) (p 48) 6)), (0, .ref (p 16)), (1, .int v1), (2, .int v2), (3, .int v3), (4, .int v4), (5, .int v5), (10, .int w10)], [], me_w M (x125N_114 p v1 v2 v3 v4 v5 v6 v7 v9 v3.toNatClampNeg (Int32.ofInt 0) (nt_u (x80 (fun i => p (48 + i)) (fun i => p (31 + i)) J) (p 48) 6 v8)))) rfl k
      have k := nt_rn_w (a := [(9, .int (v9 + (Int32.ofInt 1))), (7, .int (v7 + (x236 (x79 (fun i => p (48 + i)) (x125N_114 p v1 v2 v3 v4 v5 v6 v7 v9 v3.toNatClampNeg (Int32.ofInt 0) (nt_u (x80 (fun i => p (48 + i)) (fun i => p (31 + i)) J) (p 48) 6 v8)))))), (6, .int (v6 + (((x125N_114 p v1 v2 v3 v4 v5 v6 v7 v9 v3.toNatClampNeg (Int32.ofInt 0) (nt_u (x80 (fun i => p (48 + i)) (fun i => p (31 + i)) J) (p 48) 6 v8)) (p 48) 5) - (J (p 31) 5)))), (8, .int ((x125N_114 p v1 v2 v3 v4 v5 v6 v7 v9 v3.toNatClampNeg (Int32.ofInt 0) (nt_u (x80 (fun i => p (48 + i)) (fun i => p (31 + i)) J) (p 48) 6 v8)) (p 48) 6)), (0, .ref (p 16)), (1, .int v1), (2, .int v2), (3, .int v3), (4, .int v4), (5, .int v5), (10, .int w10)]) (b := [(0, .ref (p 16)), (1, .int v1), (2, .int v2), (3, .int v3), (4, .int v4), (5, .int v5), (6, .int (v6 + (((x125N_114 p v1 v2 v3 v4 v5 v6 v7 v9 v3.toNatClampNeg (Int32.ofInt 0) (nt_u (x80 (fun i => p (48 + i)) (fun i => p (31 + i)) J) (p 48) 6 v8)) (p 48) 5) - (J (p 31) 5)))), (7, .int (v7 + (x236 (x79 (fun i => p (48 + i)) (x125N_114 p v1 v2 v3 v4 v5 v6 v7 v9 v3.toNatClampNeg (Int32.ofInt 0) (nt_u (x80 (fun i => p (48 + i)) (fun i => p (31 + i)) J) (p 48) 6 v8)))))), (8, .int ((x125N_114 p v1 v2 v3 v4 v5 v6 v7 v9 v3.toNatClampNeg (Int32.ofInt 0) (nt_u (x80 (fun i => p (48 + i)) (fun i => p (31 + i)) J) (p 48) 6 v8)) (p 48) 6)), (9, .int (v9 + (Int32.ofInt 1))), (10, .int w10)]) ⟨rfl, rfl, rfl, rfl, rfl, rfl, rfl, rfl, rfl, rfl, rfl, trivial⟩ rfl k
      have k := ih (v6 + (((x125N_114 p v1 v2 v3 v4 v5 v6 v7 v9 v3.toNatClampNeg (Int32.ofInt 0) (nt_u (x80 (fun i => p (48 + i)) (fun i => p (31 + i)) J) (p 48) 6 v8)) (p 48) 5) - (J (p 31) 5))) (v7 + (x236 (x79 (fun i => p (48 + i)) (x125N_114 p v1 v2 v3 v4 v5 v6 v7 v9 v3.toNatClampNeg (Int32.ofInt 0) (nt_u (x80 (fun i => p (48 + i)) (fun i => p (31 + i)) J) (p 48) 6 v8))))) ((x125N_114 p v1 v2 v3 v4 v5 v6 v7 v9 v3.toNatClampNeg (Int32.ofInt 0) (nt_u (x80 (fun i => p (48 + i)) (fun i => p (31 + i)) J) (p 48) 6 v8)) (p 48) 6) (v9 + (Int32.ofInt 1)) w10 (x125N_114 p v1 v2 v3 v4 v5 v6 v7 v9 v3.toNatClampNeg (Int32.ofInt 0) (nt_u (x80 (fun i => p (48 + i)) (fun i => p (31 + i)) J) (p 48) 6 v8)) (lx_dec h88 hc) k
      rw [k, x125N_85, if_neg h88]
def x125N (p : Nat → Nat) (v1 : Int32) (v2 : Int32) (v3 : Int32) (v4 : Int32) (v5 : Int32) (J : Nat → Nat → Int32) : Int32 × (Nat → Nat → Int32) := if (J (p 31) 1) = 0 then (Int32.ofInt (-1), J)
  else if (x111 p v1 J) = 0 then (Int32.ofInt (-1), J)
    else if v2 < (Int32.ofInt 1) then (Int32.ofInt (-1), J)
      else if (Int32.ofInt 20) < v2 then (Int32.ofInt (-1), J)
        else if v3 < (Int32.ofInt 1) then (Int32.ofInt (-1), J)
          else if v3 ≤ (Int32.ofInt 100) then if v4 < 0 then (Int32.ofInt (-1), J)
              else if (Int32.ofInt 100) < v4 then (Int32.ofInt (-1), J)
                else if v5 < 0 then (Int32.ofInt (-1), J)
                  else if v5 ≤ (Int32.ofInt 1) then (x125N_85 p v1 v2 v3 v4 v5 v2.toNatClampNeg (Int32.ofInt 0) (Int32.ofInt 0) (J (p 31) 6) (Int32.ofInt 0) J)
                    else (Int32.ofInt (-1), J)
            else (Int32.ofInt (-1), J)
theorem xt125N {X : nt_X} {d : Nat} {M : nt_M} {o : Option Value × nt_M} {p : Nat → Nat} {v1 : Int32} {v2 : Int32} {v3 : Int32} {v4 : Int32} {v5 : Int32} {J : Nat → Nat → Int32} (hp : xs_P M p) (hn : xs_Q M (fun i => p (31 + i))) (hm : xs_Q M (fun i => p (48 + i))) (hk : xs_N M (fun i => p (48 + i))) (h0 : v1 < 0) (k : nt_ev X d 125 [.ref (p 16), .int v1, .int v2, .int v3, .int v4, .int v5] (me_w M J) o) : o = (some (.int ((x125N p v1 v2 v3 v4 v5 J).1)), me_w M ((x125N p v1 v2 v3 v4 v5 J).2)) := by
  have k : nt_rn X d 125 (0, [(0, .ref (p 16)), (1, .int v1), (2, .int v2), (3, .int v3), (4, .int v4), (5, .int v5)], [], me_w M J) o := k
  have k := ly_revb 1 (c' := (1, [(0, .ref (p 16)), (1, .int v1), (2, .int v2), (3, .int v3), (4, .int v4), (5, .int v5)], [.ref (p 16)], me_w M J)) rfl k
  have k := lz_get (a := (p 16)) (g := 1007) (M := me_w M J) (v := .ref (p 31)) rfl (nt_gfR rfl (hp.1 (16, 7, 31) (by decide))) k
  have k := lz_get (a := (p 31)) (g := 601) (M := me_w M J) (v := .int (J (p 31) 1)) rfl (congrArg Value.int (rfl)) k
  have k := ly_revb 1 (c' := (if (J (p 31) 1) = 0 then 40 else 10, [(0, .ref (p 16)), (1, .int v1), (2, .int v2), (3, .int v3), (4, .int v4), (5, .int v5)], [], me_w M J)) rfl k
  by_cases h7 : (J (p 31) 1) = 0
  · rw [if_pos h7] at k
    have k := ly_revb 1 (c' := (41, [(0, .ref (p 16)), (1, .int v1), (2, .int v2), (3, .int v3), (4, .int v4), (5, .int v5)], [.int (Int32.ofInt (-1))], me_w M J)) rfl k
    have k := lz_ri rfl (by decide) k
    rw [k, x125N, if_pos h7]
  · rw [if_neg h7] at k
    have k := ly_revb 2 (c' := (12, [(0, .ref (p 16)), (1, .int v1), (2, .int v2), (3, .int v3), (4, .int v4), (5, .int v5)], [.int v1, .ref (p 16)], me_w M J)) rfl k
    obtain ⟨d1, o1, ed, kc, k⟩ := lz_c (g := 111) (q := 1) (vs := [.ref (p 16), .int v1]) (rest := []) rfl rfl (by decide) (Or.inr (Or.inl ⟨_, rfl, rfl⟩)) rfl k
    have e1 := xt111 hp kc
    subst e1
    have k : nt_rn X _ 125 (15, [(0, .ref (p 16)), (1, .int v1), (2, .int v2), (3, .int v3), (4, .int v4), (5, .int v5)], [.int (x111 p v1 J)], me_w M J) _ := k
    have k := ly_revb 1 (c' := (if (x111 p v1 J) = 0 then 40 else 18, [(0, .ref (p 16)), (1, .int v1), (2, .int v2), (3, .int v3), (4, .int v4), (5, .int v5)], [], me_w M J)) rfl k
    by_cases h15 : (x111 p v1 J) = 0
    · rw [if_pos h15] at k
      have k := ly_revb 1 (c' := (41, [(0, .ref (p 16)), (1, .int v1), (2, .int v2), (3, .int v3), (4, .int v4), (5, .int v5)], [.int (Int32.ofInt (-1))], me_w M J)) rfl k
      have k := lz_ri rfl (by decide) k
      rw [k, x125N, if_neg h7, if_pos h15]
    · rw [if_neg h15] at k
      have k := ly_revb 3 (c' := (if v2 < (Int32.ofInt 1) then 40 else 23, [(0, .ref (p 16)), (1, .int v1), (2, .int v2), (3, .int v3), (4, .int v4), (5, .int v5)], [], me_w M J)) rfl k
      by_cases h20 : v2 < (Int32.ofInt 1)
      · rw [if_pos h20] at k
        have k := ly_revb 1 (c' := (41, [(0, .ref (p 16)), (1, .int v1), (2, .int v2), (3, .int v3), (4, .int v4), (5, .int v5)], [.int (Int32.ofInt (-1))], me_w M J)) rfl k
        have k := lz_ri rfl (by decide) k
        rw [k, x125N, if_neg h7, if_neg h15, if_pos h20]
      · rw [if_neg h20] at k
        have k := ly_revb 3 (c' := (if (Int32.ofInt 20) < v2 then 40 else 29, [(0, .ref (p 16)), (1, .int v1), (2, .int v2), (3, .int v3), (4, .int v4), (5, .int v5)], [], me_w M J)) rfl k
        by_cases h26 : (Int32.ofInt 20) < v2
        · rw [if_pos h26] at k
          have k := ly_revb 1 (c' := (41, [(0, .ref (p 16)), (1, .int v1), (2, .int v2), (3, .int v3), (4, .int v4), (5, .int v5)], [.int (Int32.ofInt (-1))], me_w M J)) rfl k
          have k := lz_ri rfl (by decide) k
          rw [k, x125N, if_neg h7, if_neg h15, if_neg h20, if_pos h26]
        · rw [if_neg h26] at k
          have k := ly_revb 3 (c' := (if v3 < (Int32.ofInt 1) then 40 else 34, [(0, .ref (p 16)), (1, .int v1), (2, .int v2), (3, .int v3), (4, .int v4), (5, .int v5)], [], me_w M J)) rfl k
          by_cases h31 : v3 < (Int32.ofInt 1)
          · rw [if_pos h31] at k
            have k := ly_revb 1 (c' := (41, [(0, .ref (p 16)), (1, .int v1), (2, .int v2), (3, .int v3), (4, .int v4), (5, .int v5)], [.int (Int32.ofInt (-1))], me_w M J)) rfl k
            have k := lz_ri rfl (by decide) k
            rw [k, x125N, if_neg h7, if_neg h15, if_neg h20, if_neg h26, if_pos h31]
          · rw [if_neg h31] at k
            have k := ly_revb 3 (c' := (if v3 ≤ (Int32.ofInt 100) then 42 else 40, [(0, .ref (p 16)), (1, .int v1), (2, .int v2), (3, .int v3), (4, .int v4), (5, .int v5)], [], me_w M J)) rfl k
            by_cases h37 : v3 ≤ (Int32.ofInt 100)
            · rw [if_pos h37] at k
              have k := ly_revb 2 (c' := (if v4 < 0 then 65 else 47, [(0, .ref (p 16)), (1, .int v1), (2, .int v2), (3, .int v3), (4, .int v4), (5, .int v5)], [], me_w M J)) rfl k
              by_cases h44 : v4 < 0
              · rw [if_pos h44] at k
                have k := ly_revb 1 (c' := (66, [(0, .ref (p 16)), (1, .int v1), (2, .int v2), (3, .int v3), (4, .int v4), (5, .int v5)], [.int (Int32.ofInt (-1))], me_w M J)) rfl k
                have k := lz_ri rfl (by decide) k
                rw [k, x125N, if_neg h7, if_neg h15, if_neg h20, if_neg h26, if_neg h31, if_pos h37, if_pos h44]
              · rw [if_neg h44] at k
                have k := ly_revb 3 (c' := (if (Int32.ofInt 100) < v4 then 65 else 54, [(0, .ref (p 16)), (1, .int v1), (2, .int v2), (3, .int v3), (4, .int v4), (5, .int v5)], [], me_w M J)) rfl k
                by_cases h51 : (Int32.ofInt 100) < v4
                · rw [if_pos h51] at k
                  have k := ly_revb 1 (c' := (66, [(0, .ref (p 16)), (1, .int v1), (2, .int v2), (3, .int v3), (4, .int v4), (5, .int v5)], [.int (Int32.ofInt (-1))], me_w M J)) rfl k
                  have k := lz_ri rfl (by decide) k
                  rw [k, x125N, if_neg h7, if_neg h15, if_neg h20, if_neg h26, if_neg h31, if_pos h37, if_neg h44, if_pos h51]
                · rw [if_neg h51] at k
                  have k := ly_revb 2 (c' := (if v5 < 0 then 65 else 59, [(0, .ref (p 16)), (1, .int v1), (2, .int v2), (3, .int v3), (4, .int v4), (5, .int v5)], [], me_w M J)) rfl k
                  by_cases h56 : v5 < 0
                  · rw [if_pos h56] at k
                    have k := ly_revb 1 (c' := (66, [(0, .ref (p 16)), (1, .int v1), (2, .int v2), (3, .int v3), (4, .int v4), (5, .int v5)], [.int (Int32.ofInt (-1))], me_w M J)) rfl k
                    have k := lz_ri rfl (by decide) k
                    rw [k, x125N, if_neg h7, if_neg h15, if_neg h20, if_neg h26, if_neg h31, if_pos h37, if_neg h44, if_neg h51, if_pos h56]
                  · rw [if_neg h56] at k
                    have k := ly_revb 3 (c' := (if v5 ≤ (Int32.ofInt 1) then 67 else 65, [(0, .ref (p 16)), (1, .int v1), (2, .int v2), (3, .int v3), (4, .int v4), (5, .int v5)], [], me_w M J)) rfl k
                    by_cases h62 : v5 ≤ (Int32.ofInt 1)
                    · rw [if_pos h62] at k
                      have k := ly_revb 5 (c' := (74, [(7, .int (Int32.ofInt 0)), (6, .int (Int32.ofInt 0)), (0, .ref (p 16)), (1, .int v1), (2, .int v2), (3, .int v3), (4, .int v4), (5, .int v5)], [.ref (p 16)], me_w M J)) rfl k
                      have k := lz_get (a := (p 16)) (g := 1007) (M := me_w M J) (v := .ref (p 31)) rfl (nt_gfR rfl (hp.1 (16, 7, 31) (by decide))) k
                      have k := lz_get (a := (p 31)) (g := 606) (M := me_w M J) (v := .int (J (p 31) 6)) rfl (congrArg Value.int (rfl)) k
                      have k := ly_revb 3 (c' := (85, [(9, .int (Int32.ofInt 0)), (8, .int (J (p 31) 6)), (7, .int (Int32.ofInt 0)), (6, .int (Int32.ofInt 0)), (0, .ref (p 16)), (1, .int v1), (2, .int v2), (3, .int v3), (4, .int v4), (5, .int v5)], [], me_w M J)) rfl k
                      have k := nt_rn_w (a := [(9, .int (Int32.ofInt 0)), (8, .int (J (p 31) 6)), (7, .int (Int32.ofInt 0)), (6, .int (Int32.ofInt 0)), (0, .ref (p 16)), (1, .int v1), (2, .int v2), (3, .int v3), (4, .int v4), (5, .int v5)]) (b := [(0, .ref (p 16)), (1, .int v1), (2, .int v2), (3, .int v3), (4, .int v4), (5, .int v5), (6, .int (Int32.ofInt 0)), (7, .int (Int32.ofInt 0)), (8, .int (J (p 31) 6)), (9, .int (Int32.ofInt 0)), (10, .int (Int32.ofInt 0))]) ⟨rfl, rfl, rfl, rfl, rfl, rfl, rfl, rfl, rfl, rfl, trivial⟩ rfl k
                      have k := xt125N_85 hp hn hm hk h0  v2.toNatClampNeg (Int32.ofInt 0) (Int32.ofInt 0) (J (p 31) 6) (Int32.ofInt 0) (Int32.ofInt 0) J (lx_beg (by decide)) k
                      rw [k, x125N, if_neg h7, if_neg h15, if_neg h20, if_neg h26, if_neg h31, if_pos h37, if_neg h44, if_neg h51, if_neg h56, if_pos h62]
                    · rw [if_neg h62] at k
                      have k := ly_revb 1 (c' := (66, [(0, .ref (p 16)), (1, .int v1), (2, .int v2), (3, .int v3), (4, .int v4), (5, .int v5)], [.int (Int32.ofInt (-1))], me_w M J)) rfl k
                      have k := lz_ri rfl (by decide) k
                      rw [k, x125N, if_neg h7, if_neg h15, if_neg h20, if_neg h26, if_neg h31, if_pos h37, if_neg h44, if_neg h51, if_neg h56, if_neg h62]
            · rw [if_neg h37] at k
              have k := ly_revb 1 (c' := (41, [(0, .ref (p 16)), (1, .int v1), (2, .int v2), (3, .int v3), (4, .int v4), (5, .int v5)], [.int (Int32.ofInt (-1))], me_w M J)) rfl k
              have k := lz_ri rfl (by decide) k
              rw [k, x125N, if_neg h7, if_neg h15, if_neg h20, if_neg h26, if_neg h31, if_neg h37]
theorem x125N_85_frJ {p : Nat → Nat} {v1 : Int32} {v2 : Int32} {v3 : Int32} {v4 : Int32} {v5 : Int32} {b : Nat} : ∀ (c : Nat) (v6 : Int32) (v7 : Int32) (v8 : Int32) (v9 : Int32) (J : Nat → Nat → Int32), b ≠ p 48 → b ≠ p 49 → b ≠ p 50 → b ≠ p 51 → b ≠ p 52 → b ≠ p 53 → b ≠ p 54 → b ≠ p 55 → b ≠ p 56 → b ≠ p 57 → b ≠ p 58 → b ≠ p 59 → b ≠ p 60 → b ≠ p 61 → b ≠ p 62 → b ≠ p 63 → b ≠ p 64 → (x125N_85 p v1 v2 v3 v4 v5 c v6 v7 v8 v9 J).2 b = J b := by
  intro c
  induction c with
  | zero =>
    intro v6 v7 v8 v9 J n0 n1 n2 n3 n4 n5 n6 n7 n8 n9 n10 n11 n12 n13 n14 n15 n16
    rw [x125N_85]
    by_cases h : v5 = 0
    · rw [if_pos h]
      all_goals first | (dsimp only; exact (show J b = J b from rfl)) | exact (show J b = J b from rfl)
    · rw [if_neg h]
      all_goals first | (dsimp only; exact (show J b = J b from rfl)) | exact (show J b = J b from rfl)
  | succ c ih =>
    intro v6 v7 v8 v9 J n0 n1 n2 n3 n4 n5 n6 n7 n8 n9 n10 n11 n12 n13 n14 n15 n16
    rw [x125N_85]
    by_cases h : v2 ≤ v9
    · rw [if_pos h]
      by_cases h : v5 = 0
      · rw [if_pos h]
        all_goals first | (dsimp only; exact (show J b = J b from rfl)) | exact (show J b = J b from rfl)
      · rw [if_neg h]
        all_goals first | (dsimp only; exact (show J b = J b from rfl)) | exact (show J b = J b from rfl)
    · rw [if_neg h]
      exact (ih _ _ _ _ _ n0 n1 n2 n3 n4 n5 n6 n7 n8 n9 n10 n11 n12 n13 n14 n15 n16).trans ((x125N_114_frJ _ _ _ n0 n10 n11 n12 n13 n15 n16).trans ((mu_o n0).trans (x80_frJ  n0 n1 n2 n3 n4 n5 n6 n7 n8 n9 n10 n11 n12 n13 n14 n15 n16)))
theorem x125N_frJ {p : Nat → Nat} {v1 : Int32} {v2 : Int32} {v3 : Int32} {v4 : Int32} {v5 : Int32} {J : Nat → Nat → Int32} {b : Nat} (n0 : b ≠ p 48) (n1 : b ≠ p 49) (n2 : b ≠ p 50) (n3 : b ≠ p 51) (n4 : b ≠ p 52) (n5 : b ≠ p 53) (n6 : b ≠ p 54) (n7 : b ≠ p 55) (n8 : b ≠ p 56) (n9 : b ≠ p 57) (n10 : b ≠ p 58) (n11 : b ≠ p 59) (n12 : b ≠ p 60) (n13 : b ≠ p 61) (n14 : b ≠ p 62) (n15 : b ≠ p 63) (n16 : b ≠ p 64) : (x125N p v1 v2 v3 v4 v5 J).2 b = J b := by
  unfold x125N
  by_cases h : (J (p 31) 1) = 0
  · rw [if_pos h]
    all_goals first | (dsimp only; exact (show J b = J b from rfl)) | exact (show J b = J b from rfl)
  · rw [if_neg h]
    by_cases h : (x111 p v1 J) = 0
    · rw [if_pos h]
      all_goals first | (dsimp only; exact (show J b = J b from rfl)) | exact (show J b = J b from rfl)
    · rw [if_neg h]
      by_cases h : v2 < (Int32.ofInt 1)
      · rw [if_pos h]
        all_goals first | (dsimp only; exact (show J b = J b from rfl)) | exact (show J b = J b from rfl)
      · rw [if_neg h]
        by_cases h : (Int32.ofInt 20) < v2
        · rw [if_pos h]
          all_goals first | (dsimp only; exact (show J b = J b from rfl)) | exact (show J b = J b from rfl)
        · rw [if_neg h]
          by_cases h : v3 < (Int32.ofInt 1)
          · rw [if_pos h]
            all_goals first | (dsimp only; exact (show J b = J b from rfl)) | exact (show J b = J b from rfl)
          · rw [if_neg h]
            by_cases h : v3 ≤ (Int32.ofInt 100)
            · rw [if_pos h]
              by_cases h : v4 < 0
              · rw [if_pos h]
                all_goals first | (dsimp only; exact (show J b = J b from rfl)) | exact (show J b = J b from rfl)
              · rw [if_neg h]
                by_cases h : (Int32.ofInt 100) < v4
                · rw [if_pos h]
                  all_goals first | (dsimp only; exact (show J b = J b from rfl)) | exact (show J b = J b from rfl)
                · rw [if_neg h]
                  by_cases h : v5 < 0
                  · rw [if_pos h]
                    all_goals first | (dsimp only; exact (show J b = J b from rfl)) | exact (show J b = J b from rfl)
                  · rw [if_neg h]
                    by_cases h : v5 ≤ (Int32.ofInt 1)
                    · rw [if_pos h]
                      exact (x125N_85_frJ _ _ _ _ _ _ n0 n1 n2 n3 n4 n5 n6 n7 n8 n9 n10 n11 n12 n13 n14 n15 n16).trans (rfl)
                    · rw [if_neg h]
                      all_goals first | (dsimp only; exact (show J b = J b from rfl)) | exact (show J b = J b from rfl)
            · rw [if_neg h]
              all_goals first | (dsimp only; exact (show J b = J b from rfl)) | exact (show J b = J b from rfl)
end
