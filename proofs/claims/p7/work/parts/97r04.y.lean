/-! the other side's yard, whole -/
def yr_c0 (R0 R1 R2 : Nat) (J : Nat → Nat → Int32) : lb_C := fun a n => if a = 5 then J R0 n else if a ≤ 8 then J R1 (3 * n + (a - 6)) else J R2 (4 * n + (a - 9))
theorem yr_c0_C {R0 R1 R2 B Sg Ln : Nat} {J : Nat → Nat → Int32} (h1 : (R0 ≠ B ∧ R0 ≠ Sg ∧ R0 ≠ Ln) ∧ (R1 ≠ B ∧ R1 ≠ Sg ∧ R1 ≠ Ln) ∧ (R2 ≠ B ∧ R2 ≠ Sg ∧ R2 ≠ Ln)) (h2 : R0 ≠ R1 ∧ R0 ≠ R2 ∧ R1 ≠ R2) : yr_C R0 R1 R2 B Sg Ln (yr_c0 R0 R1 R2 J) J := ⟨h1, h2, fun n => rfl, fun n => ⟨rfl, rfl, rfl⟩, fun n => ⟨rfl, rfl, rfl, rfl⟩⟩
theorem ly_B_0 {pl : Nat → Nat} {v : Nat → Int} {M : nt_M} {j : Nat} {x : Int32} (hB : ly_B pl v M) (hb : (sx_iv (sx_tbs.getD 9 []) j).1 ≤ x.toInt ∧ x.toInt ≤ (sx_iv (sx_tbs.getD 9 []) j).2) : ly_B pl v (nt_sI M (pl 0) j x) := by
  refine ly_B_wI (g := 0) (q := (11, 0, 0, 9)) hB rfl (by decide) hb (fun c hc => ⟨fun z => ?_, fun _ => rfl⟩)
  have l := List.all_eq_true.mp (show ly_C.all (fun c => !Nat.beq c.1.1 0) = true from by decide +kernel) c hc
  rw [z.1] at l
  cases l
def kk_w_readsAllY2 : sx_K := (134, 5, ly_D, ([(0, 1, 1), (0, 7, 11), (0, 15, 17), (0, 19, 19), (0, 21, 21), (10, 0, 2147483647), (11, 0, 2147483647), (12, 0, 2147483647), (13, 0, 2147483647)], []), [(2, 0, (0, []))], (ly_C ++ [((0, (18, [])), (0, [(11, 1)]))], ly_R, (ly_b ++ [(11, 6, 6)], []), 12), [(some (0, 0, (0, [(12, 1)])), (ly_C, ly_R, ([(12, 0, 1)], []), 13))])
theorem kc_w_readsAllY2 : sx_wkc (sx_tbs, sx_gps) kk_readsAllY2 kk_w_readsAllY2 = true := by decide +kernel
theorem ko_w_readsAllY2 (X : nt_X) : sx_KOK X (sx_tbs, sx_gps) kk_w_readsAllY2 := sx_wk (sx_lift (by decide +kernel) (ko_readsAllY2 X)) kc_w_readsAllY2
theorem lq_readsB {X : nt_X} {pl : Nat → Nat} {v : Nat → Int} {M : nt_M} {d : Nat} {o : Option Value × nt_M} (hd : 5 ≤ d) (hB : ly_B pl v M) (h18 : nt_I M (pl 0) 18 = nI 6) (k : nt_ev X d 134 [.ref (pl 0)] M o) : ly_B pl v o.2 ∧ ∀ j, nt_I o.2 (pl 4) j = nt_I M (pl 4) j := by
  obtain ⟨r, hr, h11⟩ : ∃ r : Nat → Int, (∀ s, s < 11 → r s = v s) ∧ r 11 = 6 := ⟨fun s => if s = 11 then 6 else v s, fun s hs => if_neg (by omega), if_pos rfl⟩
  have hij := ly_ij (K := kk_w_readsAllY2) rfl hB
  have hon := ly_app (K := kk_w_readsAllY2) (ed := []) (ec := [((0, (18, [])), (0, [(11, 1)]))]) (er := []) rfl hB (fun _ _ => rfl) hr hij ly_nil (fun q hq => by
    rw [List.mem_singleton.mp hq]
    refine ⟨Or.inl (by show 0 < 66; decide), ?_⟩
    dsimp only
    rw [sx_c_e, sx_s_e, h11]
    unfold sx_rd
    rw [if_neg (by decide), if_neg (by decide)]
    show (nt_I M (pl 0) 18).toInt = 6
    rw [h18]
    decide) (fun q hq => by cases hq) (ly_oba (ly_obr hr (ly_ob hB)) (ly_ob1 (by omega))) ly_oc0
  obtain ⟨o', h1, p, hp, r', h2, h3⟩ := ly_run (ko_w_readsAllY2 X) hd (vs := [.ref (pl 0)]) ⟨rfl, trivial⟩ hon
  have e : o = o' := lz_det k h1
  subst e
  rw [List.mem_singleton.mp hp] at h3
  have hr' : ∀ s, s < 11 → r' s = v s := fun s hs => (h3.2.2.2.2.2.1 s (by show s < 12; omega)).trans (hr s hs)
  refine ⟨ly_bk (ed := []) rfl rfl (fun _ _ => rfl) h3 (ly_oiC (more := []) (fun _ _ => rfl) rfl h3.2.2.1 hr') (ly_or2 (more := []) (fun _ _ => rfl) h3.2.2.2.1), fun j => h3.2.2.2.2.2.2.2.1 _ j fun q hq hl hz => ?_⟩
  have e := hij 4 q.1 (by show 4 < 66; decide) hl hz.1
  have l := List.all_eq_true.mp (show kk_w_readsAllY2.2.2.2.1.1.all (fun q => !Nat.beq q.1 4) = true from by decide +kernel) q hq
  rw [← e] at l
  exact absurd l (by decide)
theorem lq_sp {pl : Nat → Nat} {v : Nat → Int} {M : nt_M} (hB : ly_B pl v M) {g : Nat} {q : Nat × Int × Int × Nat} (h : ly_E.2.1[g]? = some q) : pl g ≠ nt_sp := by
  have a := (hB.2.1.2 g q h).1
  have b : nt_n M ≤ nt_sp := hB.2.1.1
  omega
theorem lq_yardB {X : nt_X} {pl : Nat → Nat} {v : Nat → Int} {M M2 : nt_M} {y2 : Int32} {t : Nat} {f : Nat → Int32} (hB : ly_B pl v M) (ht : t ≤ 400) (h01 : nt_I M (pl 0) 1 = nI t) (hf : ∀ j, nt_I M (pl 8) j = f j) (k : nt_ev X 99 166 [.ref (pl 0)] M (some (.int y2), M2)) : ∃ r, (∃ n, lb_ya f t n 0 (lb_s f t 0, (0, 0, 0, 0, 0)) r) ∧ ((∃ c, r = .inl c ∧ y2 = Int32.ofInt (-2) - c ∧ ∀ j, nt_I M2 (pl 4) j = nt_I M (pl 4) j) ∨ ∃ u, r = .inr u ∧ y2 = nI u.2.2.1 ∧ lb_ub u.2 ∧ ∃ k D, lb_yaC f t k 0 (lb_s f t 0, (0, 0, 0, 0, 0)) u (yr_c0 (pl 11) (pl 12) (pl 13) (nt_I M)) D ∧ yf_R (nt_I M2 (pl 4)) u.2 D (nt_I M (pl 4) 9)) := by
  have ne : ∀ g h, g < 66 → h < 66 → g ≠ h → pl g ≠ pl h := fun g h hg hh e c => e (hB.1 g h hg hh c)
  have hW : yr_W M (pl 0) (pl 8) (pl 1) (pl 10) (pl 11) (pl 12) (pl 13) := ⟨⟨ly_ref (g := 0) (j := 12) (k := 11) hB (List.mem_of_getElem? (i := 23) rfl), ly_ref (g := 0) (j := 13) (k := 12) hB (List.mem_of_getElem? (i := 24) rfl), ly_ref (g := 0) (j := 14) (k := 13) hB (List.mem_of_getElem? (i := 25) rfl)⟩, ⟨ne 11 0 (by omega) (by omega) (by decide), ne 11 8 (by omega) (by omega) (by decide), ne 11 1 (by omega) (by omega) (by decide), ne 11 10 (by omega) (by omega) (by decide)⟩, ⟨ne 12 0 (by omega) (by omega) (by decide), ne 12 8 (by omega) (by omega) (by decide), ne 12 1 (by omega) (by omega) (by decide), ne 12 10 (by omega) (by omega) (by decide)⟩, ⟨ne 13 0 (by omega) (by omega) (by decide), ne 13 8 (by omega) (by omega) (by decide), ne 13 1 (by omega) (by omega) (by decide), ne 13 10 (by omega) (by omega) (by decide)⟩⟩
  have k : nt_rn X 99 166 (0, [(0, .ref (pl 0))], [], me_w M (nt_I M)) (some (.int y2), M2) := k
  have k := ly_revb 2 (c' := (3, [(0, .ref (pl 0))], [.int (Int32.ofInt 6), .ref (pl 0)], me_w M ((nt_I M)))) rfl k
  have k := me_put rfl (by decide) k
  have k : nt_rn X _ 166 (6, [(0, .ref (pl 0))], [], me_w M (nt_u ((nt_I M)) (pl 0) 18 (Int32.ofInt 6))) _ := k
  have k := ly_revb 2 (c' := (8, [(0, .ref (pl 0))], [.int (Int32.ofInt 0), .ref (pl 0)], me_w M (nt_u ((nt_I M)) (pl 0) 18 (Int32.ofInt 6)))) rfl k
  have k := me_put rfl (by decide) k
  have k : nt_rn X _ 166 (11, [(0, .ref (pl 0))], [], me_w M (nt_u (nt_u ((nt_I M)) (pl 0) 18 (Int32.ofInt 6)) (pl 0) 7 (Int32.ofInt 0))) _ := k
  have k := ly_revb 2 (c' := (13, [(0, .ref (pl 0))], [.int (Int32.ofInt 0), .ref (pl 0)], me_w M (nt_u (nt_u ((nt_I M)) (pl 0) 18 (Int32.ofInt 6)) (pl 0) 7 (Int32.ofInt 0)))) rfl k
  have k := me_put rfl (by decide) k
  have k : nt_rn X _ 166 (16, [(0, .ref (pl 0))], [], me_w M (nt_u (nt_u (nt_u ((nt_I M)) (pl 0) 18 (Int32.ofInt 6)) (pl 0) 7 (Int32.ofInt 0)) (pl 0) 8 (Int32.ofInt 0))) _ := k
  have k := ly_revb 2 (c' := (18, [(0, .ref (pl 0))], [.int (Int32.ofInt 0), .ref (pl 0)], me_w M (nt_u (nt_u (nt_u ((nt_I M)) (pl 0) 18 (Int32.ofInt 6)) (pl 0) 7 (Int32.ofInt 0)) (pl 0) 8 (Int32.ofInt 0)))) rfl k
  have k := me_put rfl (by decide) k
  have k : nt_rn X _ 166 (21, [(0, .ref (pl 0))], [], me_w M (nt_u (nt_u (nt_u (nt_u ((nt_I M)) (pl 0) 18 (Int32.ofInt 6)) (pl 0) 7 (Int32.ofInt 0)) (pl 0) 8 (Int32.ofInt 0)) (pl 0) 9 (Int32.ofInt 0))) _ := k
  have k := ly_revb 2 (c' := (23, [(0, .ref (pl 0))], [.int (Int32.ofInt 0), .ref (pl 0)], me_w M (nt_u (nt_u (nt_u (nt_u ((nt_I M)) (pl 0) 18 (Int32.ofInt 6)) (pl 0) 7 (Int32.ofInt 0)) (pl 0) 8 (Int32.ofInt 0)) (pl 0) 9 (Int32.ofInt 0)))) rfl k
  have k := me_put rfl (by decide) k
  have k : nt_rn X _ 166 (26, [(0, .ref (pl 0))], [], me_w M (nt_u (nt_u (nt_u (nt_u (nt_u ((nt_I M)) (pl 0) 18 (Int32.ofInt 6)) (pl 0) 7 (Int32.ofInt 0)) (pl 0) 8 (Int32.ofInt 0)) (pl 0) 9 (Int32.ofInt 0)) (pl 0) 10 (Int32.ofInt 0))) _ := k
  have k := ly_revb 2 (c' := (28, [(0, .ref (pl 0))], [.int (Int32.ofInt (-1)), .ref (pl 0)], me_w M (nt_u (nt_u (nt_u (nt_u (nt_u ((nt_I M)) (pl 0) 18 (Int32.ofInt 6)) (pl 0) 7 (Int32.ofInt 0)) (pl 0) 8 (Int32.ofInt 0)) (pl 0) 9 (Int32.ofInt 0)) (pl 0) 10 (Int32.ofInt 0)))) rfl k
  have k := me_put rfl (by decide) k
  have k : nt_rn X _ 166 (31, [(0, .ref (pl 0))], [], me_w M (nt_u (nt_u (nt_u (nt_u (nt_u (nt_u ((nt_I M)) (pl 0) 18 (Int32.ofInt 6)) (pl 0) 7 (Int32.ofInt 0)) (pl 0) 8 (Int32.ofInt 0)) (pl 0) 9 (Int32.ofInt 0)) (pl 0) 10 (Int32.ofInt 0)) (pl 0) 11 (Int32.ofInt (-1)))) _ := k
  have k := ly_revb 1 (c' := (32, [(0, .ref (pl 0))], [.ref (pl 0)], me_w M (nt_u (nt_u (nt_u (nt_u (nt_u (nt_u ((nt_I M)) (pl 0) 18 (Int32.ofInt 6)) (pl 0) 7 (Int32.ofInt 0)) (pl 0) 8 (Int32.ofInt 0)) (pl 0) 9 (Int32.ofInt 0)) (pl 0) 10 (Int32.ofInt 0)) (pl 0) 11 (Int32.ofInt (-1))))) rfl k
  obtain ⟨d1, o1, ed, kc, k⟩ := lz_c (g := 134) (q := 1) (vs := [.ref (pl 0)]) (rest := []) rfl rfl (by decide) (Or.inr (Or.inl ⟨_, rfl, rfl⟩)) rfl k
  have ed : d1 = 98 := by omega
  subst ed
  have hB6 : ly_B pl v (me_w M (nt_u (nt_u (nt_u (nt_u (nt_u (nt_u (nt_I M) (pl 0) 18 (Int32.ofInt 6)) (pl 0) 7 (Int32.ofInt 0)) (pl 0) 8 (Int32.ofInt 0)) (pl 0) 9 (Int32.ofInt 0)) (pl 0) 10 (Int32.ofInt 0)) (pl 0) 11 (Int32.ofInt (-1)))) := ly_B_0 (ly_B_0 (ly_B_0 (ly_B_0 (ly_B_0 (ly_B_0 (hB) (show (sx_iv (sx_tbs.getD 9 []) 18).1 ≤ (Int32.ofInt 6 : Int32).toInt ∧ (Int32.ofInt 6 : Int32).toInt ≤ (sx_iv (sx_tbs.getD 9 []) 18).2 by decide)) (show (sx_iv (sx_tbs.getD 9 []) 7).1 ≤ (Int32.ofInt 0 : Int32).toInt ∧ (Int32.ofInt 0 : Int32).toInt ≤ (sx_iv (sx_tbs.getD 9 []) 7).2 by decide)) (show (sx_iv (sx_tbs.getD 9 []) 8).1 ≤ (Int32.ofInt 0 : Int32).toInt ∧ (Int32.ofInt 0 : Int32).toInt ≤ (sx_iv (sx_tbs.getD 9 []) 8).2 by decide)) (show (sx_iv (sx_tbs.getD 9 []) 9).1 ≤ (Int32.ofInt 0 : Int32).toInt ∧ (Int32.ofInt 0 : Int32).toInt ≤ (sx_iv (sx_tbs.getD 9 []) 9).2 by decide)) (show (sx_iv (sx_tbs.getD 9 []) 10).1 ≤ (Int32.ofInt 0 : Int32).toInt ∧ (Int32.ofInt 0 : Int32).toInt ≤ (sx_iv (sx_tbs.getD 9 []) 10).2 by decide)) (show (sx_iv (sx_tbs.getD 9 []) 11).1 ≤ (Int32.ofInt (-1) : Int32).toInt ∧ (Int32.ofInt (-1) : Int32).toInt ≤ (sx_iv (sx_tbs.getD 9 []) 11).2 by decide)
  obtain ⟨hBR, h4R⟩ := lq_readsB (by decide) hB6 (show (nt_u (nt_u (nt_u (nt_u (nt_u (nt_u (nt_I M) (pl 0) 18 (Int32.ofInt 6)) (pl 0) 7 (Int32.ofInt 0)) (pl 0) 8 (Int32.ofInt 0)) (pl 0) 9 (Int32.ofInt 0)) (pl 0) 10 (Int32.ofInt 0)) (pl 0) 11 (Int32.ofInt (-1))) (pl 0) 18 = nI 6 from (me_uk (by decide)).trans ((me_uk (by decide)).trans ((me_uk (by decide)).trans ((me_uk (by decide)).trans ((me_uk (by decide)).trans (me_us)))))) kc
  have n80 := ne 8 0 (by omega) (by omega) (by decide)
  have hP : md_P M (nt_u (nt_u (nt_u (nt_u (nt_u (nt_u (nt_I M) (pl 0) 18 (Int32.ofInt 6)) (pl 0) 7 (Int32.ofInt 0)) (pl 0) 8 (Int32.ofInt 0)) (pl 0) 9 (Int32.ofInt 0)) (pl 0) 10 (Int32.ofInt 0)) (pl 0) 11 (Int32.ofInt (-1))) f t 6 (pl 0) (pl 8) (pl 1) (pl 10) := ⟨⟨ly_ref (g := 0) (j := 0) (k := 8) hB (List.mem_of_getElem? (i := 20) rfl), ly_ref (g := 0) (j := 3) (k := 1) hB (List.mem_of_getElem? (i := 13) rfl), ly_ref (g := 0) (j := 4) (k := 10) hB (List.mem_of_getElem? (i := 22) rfl)⟩, ⟨ne 8 0 (by omega) (by omega) (by decide), ne 8 1 (by omega) (by omega) (by decide), ne 8 10 (by omega) (by omega) (by decide), ne 0 1 (by omega) (by omega) (by decide), ne 0 10 (by omega) (by omega) (by decide), ne 1 10 (by omega) (by omega) (by decide)⟩, (me_uk (by decide)).trans ((me_uk (by decide)).trans ((me_uk (by decide)).trans ((me_uk (by decide)).trans ((me_uk (by decide)).trans ((me_uk (by decide)).trans (h01)))))), (me_uk (by decide)).trans ((me_uk (by decide)).trans ((me_uk (by decide)).trans ((me_uk (by decide)).trans ((me_uk (by decide)).trans (me_us))))), fun j => (me_uj n80).trans ((me_uj n80).trans ((me_uj n80).trans ((me_uj n80).trans ((me_uj n80).trans ((me_uj n80).trans (hf j)))))), ht, by decide, by have := (hB.2.1.2 1 _ (show ly_E.2.1[1]? = some (13, 2400, 2400, 0) from rfl)).2.2.1; dsimp only at this; omega, lq_sp hB (show ly_E.2.1[1]? = some (13, 2400, 2400, 0) from rfl), lq_sp hB (show ly_E.2.1[10]? = some (13, 7, 7, 13) from rfl)⟩
  obtain ⟨r, a, J', e1, hya, hfin⟩ := yr_reads hW hP ⟨(me_uk (by decide)).trans ((me_uk (by decide)).trans ((me_uk (by decide)).trans ((me_uk (by decide)).trans (me_us)))), (me_uk (by decide)).trans ((me_uk (by decide)).trans ((me_uk (by decide)).trans (me_us))), (me_uk (by decide)).trans ((me_uk (by decide)).trans (me_us)), (me_uk (by decide)).trans (me_us), me_us⟩ (yr_Cr (yr_c0_C (J := nt_I M) ⟨⟨ne 11 0 (by omega) (by omega) (by decide), ne 11 1 (by omega) (by omega) (by decide), ne 11 10 (by omega) (by omega) (by decide)⟩, ⟨ne 12 0 (by omega) (by omega) (by decide), ne 12 1 (by omega) (by omega) (by decide), ne 12 10 (by omega) (by omega) (by decide)⟩, ⟨ne 13 0 (by omega) (by omega) (by decide), ne 13 1 (by omega) (by omega) (by decide), ne 13 10 (by omega) (by omega) (by decide)⟩⟩ ⟨ne 11 12 (by omega) (by omega) (by decide), ne 11 13 (by omega) (by omega) (by decide), ne 12 13 (by omega) (by omega) (by decide)⟩) (fun a z1 _ _ => (me_uo z1).trans ((me_uo z1).trans ((me_uo z1).trans ((me_uo z1).trans ((me_uo z1).trans (me_uo z1))))))) kc
  subst e1
  have hBR : ly_B pl v (me_w M J') := hBR
  have h4S : ∀ j, J' (pl 4) j = nt_I M (pl 4) j := by
    intro j
    have q : J' (pl 4) j = (nt_u (nt_u (nt_u (nt_u (nt_u (nt_u (nt_I M) (pl 0) 18 (Int32.ofInt 6)) (pl 0) 7 (Int32.ofInt 0)) (pl 0) 8 (Int32.ofInt 0)) (pl 0) 9 (Int32.ofInt 0)) (pl 0) 10 (Int32.ofInt 0)) (pl 0) 11 (Int32.ofInt (-1))) (pl 4) j := h4R j
    rw [q, me_uo (ne 4 0 (by omega) (by omega) (by decide)), me_uo (ne 4 0 (by omega) (by omega) (by decide)), me_uo (ne 4 0 (by omega) (by omega) (by decide)), me_uo (ne 4 0 (by omega) (by omega) (by decide)), me_uo (ne 4 0 (by omega) (by omega) (by decide)), me_uo (ne 4 0 (by omega) (by omega) (by decide))]
  rcases hfin with ⟨c, rfl, hc, rfl, w16⟩ | ⟨w, D, rfl, rfl, hub, ⟨k0, hyC⟩, hE⟩
  · have k : nt_rn X _ 166 (35, [(0, .ref (pl 0))], [.int (Int32.ofInt 0)], me_w M (J')) _ := k
    have k := ly_revb 1 (c' := (if (Int32.ofInt 0) = 0 then 38 else 46, [(0, .ref (pl 0))], [], me_w M (J'))) rfl k
    rw [if_pos (show (Int32.ofInt 0) = 0 from by decide)] at k
    have k := ly_revb 2 (c' := (41, [(0, .ref (pl 0))], [.ref (pl 0), .int (Int32.ofInt (-2))], me_w M (J'))) rfl k
    have k := lz_get (a := (pl 0)) (g := 1116) (M := me_w M (J')) (v := .int (c)) rfl (congrArg Value.int (w16)) k
    have k := ly_revb 1 (c' := (45, [(0, .ref (pl 0))], [.int ((Int32.ofInt (-2)) - c)], me_w M (J'))) rfl k
    have k := lz_ri rfl (by decide) k
    exact ⟨_, hya, Or.inl ⟨c, rfl, (lq_out k).1, fun j => by rw [(lq_out k).2]; exact h4S j⟩⟩
  · have k : nt_rn X _ 166 (35, [(0, .ref (pl 0))], [.int (Int32.ofInt 1)], me_w M (J')) _ := k
    have k := ly_revb 1 (c' := (if (Int32.ofInt 1) = 0 then 38 else 46, [(0, .ref (pl 0))], [], me_w M (J'))) rfl k
    rw [if_neg (show ¬ ((Int32.ofInt 1) = 0) from by decide)] at k
    have e9 := xt166F (p := pl) (J := J') (zz_P hB) k
    obtain ⟨z1, z2⟩ := yf_row (p := pl) (zz_ne hB) hub hE
    have eM := (lq_out e9).2
    have ey := (lq_out e9).1
    refine ⟨_, hya, Or.inr ⟨w, rfl, ey.trans z1, hub, k0, D, hyC, ?_⟩⟩
    rw [show nt_I M2 = (x166F pl J').2 from by rw [eM]; rfl, ← h4S 9]
    exact z2
