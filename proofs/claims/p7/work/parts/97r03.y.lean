/-! the class's yard, whole -/
theorem lz_putr {X : nt_X} {d mi pc a b g t i : Nat} {ls : nt_V} {st : List Value} {M : nt_M} {o : Option Value × nt_M} (hat : nt_at mi pc = some (pc, .putfield i, g, t)) (ht : nt_tg (g / 100) (g % 100) = 2) (k : nt_rn X d mi (pc, ls, .ref b :: .ref a :: st, M) o) : nt_rn X d mi (pc + 3, ls, st, nt_sR M a (g % 100) (some b)) o := by
  obtain ⟨c', hs, k⟩ := lz_s hat rfl k
  have hs : (if a < nt_n M ∧ nt_k M a = g / 100 ∧ g / 100 < 12 ∧ g % 100 < nt_N (g / 100) ∧ ((nt_T (g / 100) (g % 100)).2.2.2 = false ∨ (nt_m mi).2.2.2.2.2.2.1 = 2 ∧ (nt_m mi).2.2.2.2.1 = g / 100) then nt_pf M a (g / 100) (g % 100) (.ref b) (fun M' => some (pc + 3, ls, st, M')) else none) = some c' := hs
  obtain ⟨_, e⟩ := nt_if_some hs
  unfold nt_pf at e
  rw [ht] at e
  have e : some (pc + 3, ls, st, nt_sR M a (g % 100) (some b)) = some c' := e
  cases e
  exact k
theorem me_R {M : nt_M} {a k b j : Nat} {v : Option Nat} : nt_R (nt_sR M a k v) b j = if b = a then (if j = k then v else nt_R M b j) else nt_R M b j := rfl
theorem me_Ro {M : nt_M} {a k b j : Nat} {v : Option Nat} (h : b ≠ a) : nt_R (nt_sR M a k v) b j = nt_R M b j := if_neg h
theorem me_Rk {M : nt_M} {a k j : Nat} {v : Option Nat} (h : j ≠ k) : nt_R (nt_sR M a k v) a j = nt_R M a j := (if_pos rfl).trans (if_neg h)
theorem me_Rs {M : nt_M} {a k : Nat} {v : Option Nat} : nt_R (nt_sR M a k v) a k = v := (if_pos rfl).trans (if_pos rfl)
theorem yc_open {X : nt_X} {d t Rd Tp By RR Sp Yr Y m0 s0 : Nat} {Rw : Nat → Nat} {f : Nat → Int32} {M : nt_M} {o : Option Value × nt_M} {C : lb_C} {J : Nat → Nat → Int32} (hP : yc_P M t Rd Tp By RR Sp Yr Y Rw) (hA : J Tp 1 = nI t ∧ (∀ j, J By j = f j) ∧ J RR 2 = nI s0 ∧ J RR 3 = nI m0) (hY : J Y 0 = nI 0 ∧ J Y 1 = nI 0 ∧ J Y 2 = nI 0 ∧ J Y 3 = nI 0 ∧ J Y 4 = nI 0) (hs : s0 ≤ 400 ∧ m0 ≤ 60) (hCC : ∀ i, 5 ≤ i → i ≤ 12 → ∀ j, J (Rw i) j = C i j) (k : nt_ev X d 28 [.ref Rd] (me_w M J) o) : ∃ J', o = (none, me_w M J') ∧ yc_S Rw C f t Rd Tp By RR Y m0 s0 (lb_s f t 0) 0 (0, 0, 0, 0, 0) (J') := by
  have k : nt_rn X d 28 (0, [(0, .ref Rd)], [], me_w M J) o := k
  have t4 : t ≤ 400 := hP.2.2.2.2.2.1
  have k := ly_revb 2 (c' := (2, [(0, .ref Rd)], [.int (Int32.ofInt 0), .ref Rd], me_w M J)) rfl k
  have k := me_put rfl (by decide) k
  have k : nt_rn X _ 28 (5, [(0, .ref Rd)], [], me_w M (nt_u J Rd 1 (Int32.ofInt 0))) _ := k
  have k := ly_revb 2 (c' := (7, [(0, .ref Rd)], [.int (Int32.ofInt 0), .ref Rd], me_w M (nt_u J Rd 1 (Int32.ofInt 0)))) rfl k
  have k := me_put rfl (by decide) k
  have k : nt_rn X _ 28 (10, [(0, .ref Rd)], [], me_w M (nt_u (nt_u J Rd 1 (Int32.ofInt 0)) Rd 2 (Int32.ofInt 0))) _ := k
  have k := ly_revb 2 (c' := (12, [(0, .ref Rd)], [.int (Int32.ofInt 0), .ref Rd], me_w M (nt_u (nt_u J Rd 1 (Int32.ofInt 0)) Rd 2 (Int32.ofInt 0)))) rfl k
  obtain ⟨d1, o1, ed, kc, k⟩ := lz_c (g := 29) (q := 1) (vs := [.ref Rd, .int (Int32.ofInt 0)]) (rest := []) rfl rfl (by decide) (Or.inr (Or.inl ⟨_, rfl, rfl⟩)) rfl k
  have n1 := hP.2.1.1
  have n2 := hP.2.1.2.2.2.1
  have n3 := hP.2.1.2.2.2.2.2.2.1
  have n4 := hP.2.2.2.1.1
  have hS0 : yc_S Rw C f t Rd Tp By RR Y m0 s0 0 0 (0, 0, 0, 0, 0) (nt_u (nt_u J Rd 1 (Int32.ofInt 0)) Rd 2 (Int32.ofInt 0)) := ⟨⟨(me_uk (by decide)).trans me_us, me_us⟩, ⟨(me_uj n1).trans ((me_uj n1).trans hA.1), fun j => (me_uj n2).trans ((me_uj n2).trans (hA.2.1 j)), (me_uj (Ne.symm n3)).trans ((me_uj (Ne.symm n3)).trans hA.2.2.1), (me_uj (Ne.symm n3)).trans ((me_uj (Ne.symm n3)).trans hA.2.2.2)⟩, ⟨(me_uj n4).trans ((me_uj n4).trans hY.1), (me_uj n4).trans ((me_uj n4).trans hY.2.1), (me_uj n4).trans ((me_uj n4).trans hY.2.2.1), (me_uj n4).trans ((me_uj n4).trans hY.2.2.2.1), (me_uj n4).trans ((me_uj n4).trans hY.2.2.2.2)⟩, hs, fun i h5 h12 j => (me_uj (hP.2.2.2.2.1 i h5 h12).2.1).trans ((me_uj (hP.2.2.2.2.1 i h5 h12).2.1).trans (hCC i h5 h12 j))⟩
  have e1 := lc_skip (b := 0) (yc_lP hP hS0) (yc_lS hP hS0) (Nat.zero_le t) (by omega) kc
  rw [show min (0 + 0) t = 0 from by omega] at e1
  subst e1
  have k : nt_rn X _ 28 (15, [(0, .ref Rd)], [], me_w M (nt_u (nt_u (nt_u J Rd 1 (Int32.ofInt 0)) Rd 2 (Int32.ofInt 0)) Rd 1 (nI (lb_s f t 0)))) _ := k
  have k := lz_rv rfl rfl k
  exact ⟨_, k, yc_Sp hP hS0⟩
theorem yc_read {X : nt_X} {d t Rd Tp By RR Sp Yr Y m0 s0 : Nat} {Rw : Nat → Nat} {f : Nat → Int32} {M : nt_M} {o : Option Value × nt_M} {C : lb_C} {M0 : nt_M} {J : Nat → Nat → Int32} (hP : yc_P M t Rd Tp By RR Sp Yr Y Rw) (hM : M = nt_sR M0 Yr 1 (some Y)) (hA : J Tp 1 = nI t ∧ (∀ j, J By j = f j) ∧ J RR 2 = nI s0 ∧ J RR 3 = nI m0) (hs : s0 ≤ 400 ∧ m0 ≤ 60) (hCC : ∀ i, 5 ≤ i → i ≤ 12 → ∀ j, J (Rw i) j = C i j) (k : nt_ev X d 92 [.ref Yr, .ref Y] (me_w M0 J) o) : ∃ k r J', o = (some (.int (lb_ry r)), me_w M J') ∧ lb_ya f t k 0 (lb_s f t 0, (0, 0, 0, 0, 0)) r ∧ (∀ u1, r = .inr u1 → lb_ub u1.2 ∧ ∃ k D, lb_yaC f t k 0 (lb_s f t 0, (0, 0, 0, 0, 0)) u1 C D ∧ yc_R Rw Y u1.2 D J') ∧ (∀ c, r = .inl c → c ≠ 0) := by
  have k : nt_rn X d 92 (0, [(0, .ref Yr), (1, .ref Y)], [], me_w M0 J) o := k
  have t4 : t ≤ 400 := hP.2.2.2.2.2.1
  have k := ly_revb 2 (c' := (2, [(0, .ref Yr), (1, .ref Y)], [.ref Y, .ref Yr], me_w M0 J)) rfl k
  have k := lz_putr rfl (by decide) k
  have k : nt_rn X d 92 (5, [(0, .ref Yr), (1, .ref Y)], [], me_w (nt_sR M0 Yr 1 (some Y)) J) o := k
  rw [← hM] at k
  have k := ly_revb 1 (c' := (6, [(0, .ref Yr), (1, .ref Y)], [.ref Yr], me_w M J)) rfl k
  have k := lz_get (a := Yr) (g := 901) (M := me_w M J) (v := .ref Y) rfl (nt_gfR rfl hP.2.2.1.2) k
  obtain ⟨d1, o1, ed, kc, k⟩ := lz_c (g := 86) (q := 1) (vs := [.ref Y]) (rest := []) rfl rfl (by decide) (Or.inr (Or.inl ⟨_, rfl, rfl⟩)) rfl k
  have e1 := yc_clear kc
  subst e1
  have k : nt_rn X _ 92 (12, [(0, .ref Yr), (1, .ref Y)], [], me_w M (nt_u (nt_u (nt_u (nt_u (nt_u J Y 0 (Int32.ofInt 0)) Y 1 (Int32.ofInt 0)) Y 2 (Int32.ofInt 0)) Y 3 (Int32.ofInt 0)) Y 4 (Int32.ofInt 0))) _ := k
  have k := ly_revb 1 (c' := (13, [(0, .ref Yr), (1, .ref Y)], [.ref Yr], me_w M (nt_u (nt_u (nt_u (nt_u (nt_u J Y 0 (Int32.ofInt 0)) Y 1 (Int32.ofInt 0)) Y 2 (Int32.ofInt 0)) Y 3 (Int32.ofInt 0)) Y 4 (Int32.ofInt 0)))) rfl k
  have k := lz_get (a := Yr) (g := 900) (M := me_w M (nt_u (nt_u (nt_u (nt_u (nt_u J Y 0 (Int32.ofInt 0)) Y 1 (Int32.ofInt 0)) Y 2 (Int32.ofInt 0)) Y 3 (Int32.ofInt 0)) Y 4 (Int32.ofInt 0))) (v := .ref Rd) rfl (nt_gfR rfl hP.2.2.1.1) k
  obtain ⟨d1, o1, ed, kc, k⟩ := lz_c (g := 28) (q := 1) (vs := [.ref Rd]) (rest := []) rfl rfl (by decide) (Or.inr (Or.inl ⟨_, rfl, rfl⟩)) rfl k
  obtain ⟨n1, n2, n3, n4⟩ := hP.2.2.2.1
  obtain ⟨J1, e1, hS⟩ := yc_open (J := nt_u (nt_u (nt_u (nt_u (nt_u J Y 0 (Int32.ofInt 0)) Y 1 (Int32.ofInt 0)) Y 2 (Int32.ofInt 0)) Y 3 (Int32.ofInt 0)) Y 4 (Int32.ofInt 0)) hP ⟨(me_uj (Ne.symm n2)).trans ((me_uj (Ne.symm n2)).trans ((me_uj (Ne.symm n2)).trans ((me_uj (Ne.symm n2)).trans ((me_uj (Ne.symm n2)).trans (hA.1))))), fun j => (me_uj (Ne.symm n3)).trans ((me_uj (Ne.symm n3)).trans ((me_uj (Ne.symm n3)).trans ((me_uj (Ne.symm n3)).trans ((me_uj (Ne.symm n3)).trans (hA.2.1 j))))), (me_uj (Ne.symm n4)).trans ((me_uj (Ne.symm n4)).trans ((me_uj (Ne.symm n4)).trans ((me_uj (Ne.symm n4)).trans ((me_uj (Ne.symm n4)).trans (hA.2.2.1))))), (me_uj (Ne.symm n4)).trans ((me_uj (Ne.symm n4)).trans ((me_uj (Ne.symm n4)).trans ((me_uj (Ne.symm n4)).trans ((me_uj (Ne.symm n4)).trans (hA.2.2.2)))))⟩ ⟨(me_uk (by decide)).trans ((me_uk (by decide)).trans ((me_uk (by decide)).trans ((me_uk (by decide)).trans (me_us)))), (me_uk (by decide)).trans ((me_uk (by decide)).trans ((me_uk (by decide)).trans (me_us))), (me_uk (by decide)).trans ((me_uk (by decide)).trans (me_us)), (me_uk (by decide)).trans (me_us), me_us⟩ hs (fun i h5 h12 j => (me_uj (hP.2.2.2.2.1 i h5 h12).2.2.2.2.2.1).trans ((me_uj (hP.2.2.2.2.1 i h5 h12).2.2.2.2.2.1).trans ((me_uj (hP.2.2.2.2.1 i h5 h12).2.2.2.2.2.1).trans ((me_uj (hP.2.2.2.2.1 i h5 h12).2.2.2.2.2.1).trans ((me_uj (hP.2.2.2.2.1 i h5 h12).2.2.2.2.2.1).trans (hCC i h5 h12 j)))))) kc
  subst e1
  have k : nt_rn X _ 92 (19, [(0, .ref Yr), (1, .ref Y)], [], me_w M J1) _ := k
  have k := ly_revb 4 (c' := (23, [(3, .int (Int32.ofInt 0)), (2, .int (Int32.ofInt 1)), (0, .ref Yr), (1, .ref Y)], [], me_w M J1)) rfl k
  exact yc_rdl hP 40 0 _ (0, 0, 0, 0, 0) C J1 rfl (lb_s_le t 0 (by omega)).2 ⟨by decide, by decide, by decide, by decide, by decide⟩ hS k
def kk_w_yread : sx_K := (92, 8, ly_D, ([(19, 1, 2), (49, 0, 4), (50, 0, 2147483647), (51, 0, 2147483647), (52, 0, 2147483647), (53, 0, 2147483647), (54, 0, 2147483647), (55, 0, 2147483647), (56, 0, 2147483647), (57, 0, 2147483647)], [(20, 1)]), [(2, 20, (0, [])), (2, 49, (0, []))], (ly_C, ly_R, (ly_b, []), 11), [(some (0, 0, (0, [(11, 1)])), (ly_C, ly_R, ([(11, (-2147483648), 2147483647)], []), 12))])
theorem kc_w_yread : sx_wkc (sx_tbs, sx_gps) kk_yread kk_w_yread = true := by decide +kernel
theorem ko_w_yread (X : nt_X) : sx_KOK X (sx_tbs, sx_gps) kk_w_yread := sx_wk (sx_lift (by decide +kernel) (ko_yread X)) kc_w_yread
theorem lq_yreadB {X : nt_X} {pl : Nat → Nat} {v : Nat → Int} {M : nt_M} {d : Nat} {o : Option Value × nt_M} (hd : 8 ≤ d) (hB : ly_B pl v M) (k : nt_ev X d 92 [.ref (pl 20), .ref (pl 49)] M o) : ly_B pl v o.2 := by
  have hij := ly_ij (K := kk_w_yread) rfl hB
  have hon := ly_app (K := kk_w_yread) (r := v) (ed := []) (ec := []) (er := []) rfl hB (fun _ _ => rfl) (fun _ _ => rfl) hij ly_nil (fun q hq => by cases hq) (fun q hq => by cases hq) (ly_ob hB) ly_oc0
  obtain ⟨o', h1, p, hp, r', h2, h3⟩ := ly_run (ko_w_yread X) hd (vs := [.ref (pl 20), .ref (pl 49)]) ⟨rfl, rfl, trivial⟩ hon
  have e : o = o' := lz_det k h1
  subst e
  rw [List.mem_singleton.mp hp] at h3
  have hr' : ∀ s, s < 11 → r' s = v s := fun s hs => h3.2.2.2.2.2.1 s hs
  exact ly_bk (ed := []) rfl rfl (fun _ _ => rfl) h3 (ly_oiC (more := []) (fun _ _ => rfl) rfl h3.2.2.1 hr') (ly_or2 (more := []) (fun _ _ => rfl) h3.2.2.2.1)
theorem lq_yP {pl : Nat → Nat} {v : Nat → Int} {M : nt_M} {t : Nat} (hB : ly_B pl v M) (ht : t ≤ 400) : yc_P (nt_sR M (pl 20) 1 (some (pl 49))) t (pl 19) (pl 17) (pl 18) (pl 21) (pl 22) (pl 20) (pl 49) (fun i => pl (45 + i)) := by
  have ne : ∀ g h, g < 66 → h < 66 → g ≠ h → pl g ≠ pl h := fun g h hg hh e c => e (hB.1 g h hg hh c)
  refine ⟨⟨(me_Ro (ne 19 20 (by omega) (by omega) (by decide))).trans (ly_ref (g := 19) (j := 0) (k := 17) hB (List.mem_of_getElem? (i := 12) rfl)), (me_Ro (ne 17 20 (by omega) (by omega) (by decide))).trans (ly_ref (g := 17) (j := 0) (k := 18) hB (List.mem_of_getElem? (i := 28) rfl)), (me_Ro (ne 21 20 (by omega) (by omega) (by decide))).trans (ly_ref (g := 21) (j := 0) (k := 19) hB (List.mem_of_getElem? (i := 10) rfl)), (me_Ro (ne 21 20 (by omega) (by omega) (by decide))).trans (ly_ref (g := 21) (j := 1) (k := 22) hB (List.mem_of_getElem? (i := 11) rfl))⟩, ⟨ne 17 19 (by omega) (by omega) (by decide), ne 17 21 (by omega) (by omega) (by decide), ne 17 22 (by omega) (by omega) (by decide), ne 18 19 (by omega) (by omega) (by decide), ne 18 21 (by omega) (by omega) (by decide), ne 18 22 (by omega) (by omega) (by decide), ne 19 21 (by omega) (by omega) (by decide), ne 19 22 (by omega) (by omega) (by decide), ne 21 22 (by omega) (by omega) (by decide)⟩, ⟨(me_Rk (by decide)).trans (ly_ref (g := 20) (j := 0) (k := 19) hB (List.mem_of_getElem? (i := 9) rfl)), me_Rs⟩, ⟨ne 49 19 (by omega) (by omega) (by decide), ne 49 17 (by omega) (by omega) (by decide), ne 49 18 (by omega) (by omega) (by decide), ne 49 21 (by omega) (by omega) (by decide)⟩, fun i h5 h12 => ?_, ht, ?_, ?_⟩
  · refine ⟨(me_Ro (ne 49 20 (by omega) (by omega) (by decide))).trans ?_, ne _ 19 (by omega) (by omega) (by omega), ne _ 17 (by omega) (by omega) (by omega), ne _ 18 (by omega) (by omega) (by omega), ne _ 21 (by omega) (by omega) (by omega), ne _ 49 (by omega) (by omega) (by omega), fun i' h5' h12' e => ne _ _ (by omega) (by omega) (by omega)⟩
    rcases (by omega : i = 5 ∨ i = 6 ∨ i = 7 ∨ i = 8 ∨ i = 9 ∨ i = 10 ∨ i = 11 ∨ i = 12) with rfl | rfl | rfl | rfl | rfl | rfl | rfl | rfl
    · exact ly_ref (g := 49) (j := 5) (k := 50) hB (List.mem_of_getElem? (i := 51) rfl)
    · exact ly_ref (g := 49) (j := 6) (k := 51) hB (List.mem_of_getElem? (i := 52) rfl)
    · exact ly_ref (g := 49) (j := 7) (k := 52) hB (List.mem_of_getElem? (i := 53) rfl)
    · exact ly_ref (g := 49) (j := 8) (k := 53) hB (List.mem_of_getElem? (i := 54) rfl)
    · exact ly_ref (g := 49) (j := 9) (k := 54) hB (List.mem_of_getElem? (i := 55) rfl)
    · exact ly_ref (g := 49) (j := 10) (k := 55) hB (List.mem_of_getElem? (i := 56) rfl)
    · exact ly_ref (g := 49) (j := 11) (k := 56) hB (List.mem_of_getElem? (i := 57) rfl)
    · exact ly_ref (g := 49) (j := 12) (k := 57) hB (List.mem_of_getElem? (i := 58) rfl)
  · show nt_l M (pl 22) = 400
    have := (hB.2.1.2 22 _ (show ly_E.2.1[22]? = some (13, 400, 400, 0) from rfl)).2.2.1
    dsimp only at this
    omega
  · have a := (hB.2.1.2 22 _ (show ly_E.2.1[22]? = some (13, 400, 400, 0) from rfl)).1
    have b : nt_n M ≤ nt_sp := hB.2.1.1
    omega
theorem lq_out {x y : Int32} {M M' : nt_M} (h : ((some (Value.int x), M) : Option Value × nt_M) = (some (Value.int y), M')) : x = y ∧ M = M' := by
  cases h
  exact ⟨rfl, rfl⟩
theorem lq_yardA {X : nt_X} {pl : Nat → Nat} {v : Nat → Int} {M M1 : nt_M} {y1 : Int32} {t : Nat} (hB : ly_B pl v M) (ht : t ≤ 400) (h17 : nt_I M (pl 17) 1 = nI t) (k : nt_ev X 99 104 [.ref (pl 16)] M (some (.int y1), M1)) : ∃ n r, lb_ya (nt_I M (pl 18)) t n 0 (lb_s (nt_I M (pl 18)) t 0, (0, 0, 0, 0, 0)) r ∧ ((∃ c, r = .inl c ∧ c ≠ 0 ∧ y1 = Int32.ofInt (-2) - c ∧ nt_R M1 (pl 16) 7 = some (pl 31)) ∨ ∃ u, r = .inr u ∧ y1 = nI u.2.2.1 ∧ nt_R M1 (pl 16) 7 = some (pl 48) ∧ lb_ub u.2 ∧ ∃ k D, lb_yaC (nt_I M (pl 18)) t k 0 (lb_s (nt_I M (pl 18)) t 0, (0, 0, 0, 0, 0)) u (fun i j => nt_I M (pl (45 + i)) j) D ∧ ∃ JY, yc_R (fun i => pl (45 + i)) (pl 49) u.2 D JY ∧ nt_I M1 = x64 (fun i => pl (48 + i)) (JY (pl 31) 6) JY) := by
  have ne : ∀ g h, g < 66 → h < 66 → g ≠ h → pl g ≠ pl h := fun g h hg hh e c => e (hB.1 g h hg hh c)
  have k : nt_rn X 99 104 (0, [(0, .ref (pl 16))], [], M) (some (.int y1), M1) := k
  have k := ly_revb 1 (c' := (1, [(0, .ref (pl 16))], [.ref (pl 16)], M)) rfl k
  have k := lz_get (a := pl 16) (g := 1001) (v := .ref (pl 20)) rfl (nt_gfR rfl (ly_ref (g := 16) (j := 1) (k := 20) hB (List.mem_of_getElem? (i := 1) rfl))) k
  have k := ly_revb 1 (c' := (5, [(0, .ref (pl 16))], [.ref (pl 16), .ref (pl 20)], M)) rfl k
  have k := lz_get (a := pl 16) (g := 1008) (v := .ref (pl 48)) rfl (nt_gfR rfl (ly_ref (g := 16) (j := 8) (k := 48) hB (List.mem_of_getElem? (i := 7) rfl))) k
  have k := lz_get (a := pl 48) (g := 600) (v := .ref (pl 49)) rfl (nt_gfR rfl (ly_ref (g := 48) (j := 0) (k := 49) hB (List.mem_of_getElem? (i := 50) rfl))) k
  obtain ⟨d1, o1, ed, kc, k⟩ := lz_c (g := 92) (q := 1) (vs := [.ref (pl 20), .ref (pl 49)]) (rest := []) rfl rfl (by decide) (Or.inr (Or.inl ⟨_, rfl, rfl⟩)) rfl k
  have ed : d1 = 98 := by omega
  subst ed
  have hB1 := lq_yreadB (by decide) hB kc
  have g21 := hB.2.1.2 21 _ (show ly_E.2.1[21]? = some (5, 0, 0, 6) from rfl)
  have b2 : 0 ≤ (nt_I M (pl 21) 2).toInt ∧ (nt_I M (pl 21) 2).toInt ≤ 400 := g21.2.2.2.2 2
  have b3 : 0 ≤ (nt_I M (pl 21) 3).toInt ∧ (nt_I M (pl 21) 3).toInt ≤ 60 := g21.2.2.2.2 3
  obtain ⟨n, r, J', e1, hya, hsh, hne⟩ := yc_read (f := nt_I M (pl 18)) (s0 := (nt_I M (pl 21) 2).toInt.toNat) (m0 := (nt_I M (pl 21) 3).toInt.toNat) (J := nt_I M) (lq_yP hB ht) rfl ⟨h17, fun _ => rfl, Int32.toInt_inj.mp (by rw [nI_toInt (by omega)]; omega), Int32.toInt_inj.mp (by rw [nI_toInt (by omega)]; omega)⟩ ⟨by omega, by omega⟩ (C := fun i j => nt_I M (pl (45 + i)) j) (fun i h5 h12 j => rfl) kc
  subst e1
  generalize hMR : me_w (nt_sR M (pl 20) 1 (some (pl 49))) J' = MR at k hB1
  have hB1 : ly_B pl v MR := hB1
  have iMR : nt_I MR = J' := by rw [← hMR]; rfl
  have k : nt_rn X 99 104 (14, [(0, .ref (pl 16))], [.int (lb_ry r)], MR) (some (.int y1), M1) := k
  have k := ly_revb 2 (c' := (16, [(1, .int (lb_ry r)), (0, .ref (pl 16))], [.ref (pl 16)], MR)) rfl k
  have k := lz_get (a := pl 16) (g := 1000) (v := .ref (pl 17)) rfl (nt_gfR rfl (ly_ref (g := 16) (j := 0) (k := 17) hB1 (List.mem_of_getElem? (i := 0) rfl))) k
  have k := ly_revb 1 (c' := (20, [(1, .int (lb_ry r)), (0, .ref (pl 16))], [.int (Int32.ofInt 0), .ref (pl 17)], MR)) rfl k
  have k := lz_put rfl (by decide) k
  obtain ⟨M2, hM2⟩ : ∃ M2, M2 = nt_sI MR (pl 17) 1 (Int32.ofInt 0) := ⟨_, rfl⟩
  have k : nt_rn X 99 104 (23, [(1, .int (lb_ry r)), (0, .ref (pl 16))], [], nt_sI MR (pl 17) 1 (Int32.ofInt 0)) (some (.int y1), M1) := k
  rw [← hM2] at k
  have hB2 : ly_B pl v M2 := by
    rw [hM2]
    refine ly_B_wI (q := (7, 0, 0, 4)) hB1 rfl (by decide) (by show (0 : Int) ≤ 0 ∧ (0 : Int) ≤ 400; decide) (fun c hc => ⟨fun z => ?_, fun _ => rfl⟩)
    have l := List.all_eq_true.mp (show ly_C.all (fun c => !Nat.beq c.1.1 17) = true from by decide +kernel) c hc
    rw [z.1] at l
    cases l
  have k := ly_revb 2 (c' := (if lb_ry r = 0 then 32 else 27, [(1, .int (lb_ry r)), (0, .ref (pl 16))], [], M2)) rfl k
  rcases r with c | u
  · have hc := hne c rfl
    rw [if_neg (show ¬ lb_ry (.inl c) = 0 from hc)] at k
    have k := ly_revb 3 (c' := (31, [(1, .int (lb_ry (.inl c))), (0, .ref (pl 16))], [.int (Int32.ofInt (-2) - lb_ry (.inl c))], M2)) rfl k
    have k := lz_ri rfl (by decide) k
    exact ⟨n, _, hya, Or.inl ⟨c, rfl, hc, (lq_out k).1, by rw [(lq_out k).2]; exact ly_ref (g := 16) (j := 7) (k := 31) hB2 (List.mem_of_getElem? (i := 6) rfl)⟩⟩
  · rw [if_pos (show lb_ry (.inr u) = 0 from rfl)] at k
    obtain ⟨hub, k0, D0, hyC, hyR⟩ := hsh u rfl
    have k := ly_revb 1 (c' := (33, [(1, .int (lb_ry (.inr u))), (0, .ref (pl 16))], [.ref (pl 16)], M2)) rfl k
    have k := lz_get (a := pl 16) (g := 1008) (v := .ref (pl 48)) rfl (nt_gfR rfl (ly_ref (g := 16) (j := 8) (k := 48) hB2 (List.mem_of_getElem? (i := 7) rfl))) k
    have k := ly_revb 1 (c' := (37, [(1, .int (lb_ry (.inr u))), (0, .ref (pl 16))], [.ref (pl 16), .ref (pl 48)], M2)) rfl k
    have k := lz_get (a := pl 16) (g := 1007) (v := .ref (pl 31)) rfl (nt_gfR rfl (ly_ref (g := 16) (j := 7) (k := 31) hB2 (List.mem_of_getElem? (i := 6) rfl))) k
    have k := lz_get (a := pl 31) (g := 606) (v := .int (nt_I M2 (pl 31) 6)) rfl rfl k
    obtain ⟨d1, o1, ed, kc2, k⟩ := lz_c (g := 64) (q := 1) (vs := [.ref (pl 48), .int (nt_I M2 (pl 31) 6)]) (rest := []) rfl rfl (by decide) (Or.inr (Or.inl ⟨_, rfl, rfl⟩)) rfl k
    obtain ⟨ov, M3⟩ := o1
    have e64 := xt64 (q := fun i => pl (48 + i)) (J := nt_I M2) (zz_Qm hB2) kc2
    have en : ov = none := congrArg Prod.fst e64
    have eM3 : M3 = me_w M2 (x64 (fun i => pl (48 + i)) (nt_I M2 (pl 31) 6) (nt_I M2)) := congrArg Prod.snd e64
    subst en
    have eR : ∀ a j, nt_R M3 a j = nt_R M2 a j := fun a j => by rw [eM3]; rfl
    have hJY : yc_R (fun i => pl (45 + i)) (pl 49) u.2 D0 (nt_I M2) := by
      have q : nt_I M2 = nt_u J' (pl 17) 1 (Int32.ofInt 0) := by rw [hM2, ← iMR]; rfl
      rw [q]
      have n4 := ne 49 17 (by omega) (by omega) (by decide)
      exact ⟨⟨(me_uj n4).trans hyR.1.1, (me_uj n4).trans hyR.1.2.1, (me_uj n4).trans hyR.1.2.2.1, (me_uj n4).trans hyR.1.2.2.2.1, (me_uj n4).trans hyR.1.2.2.2.2⟩, fun i h5 h12 j => (me_uj (ne _ 17 (by omega) (by omega) (by omega))).trans (hyR.2 i h5 h12 j)⟩
    have k : nt_rn X 99 104 (46, [(1, .int (lb_ry (.inr u))), (0, .ref (pl 16))], [], M3) (some (.int y1), M1) := k
    have k := ly_revb 1 (c' := (47, [(1, .int (lb_ry (.inr u))), (0, .ref (pl 16))], [.ref (pl 16)], M3)) rfl k
    have k := lz_get (a := pl 16) (g := 1007) (v := .ref (pl 31)) rfl (nt_gfR rfl ((eR _ _).trans (ly_ref (g := 16) (j := 7) (k := 31) hB2 (List.mem_of_getElem? (i := 6) rfl)))) k
    have k := ly_revb 3 (c' := (53, [(2, .ref (pl 31)), (1, .int (lb_ry (.inr u))), (0, .ref (pl 16))], [.ref (pl 16), .ref (pl 16)], M3)) rfl k
    have k := lz_get (a := pl 16) (g := 1008) (v := .ref (pl 48)) rfl (nt_gfR rfl ((eR _ _).trans (ly_ref (g := 16) (j := 8) (k := 48) hB2 (List.mem_of_getElem? (i := 7) rfl)))) k
    have k := lz_putr rfl (by decide) k
    obtain ⟨M4, hM4⟩ : ∃ M4, M4 = nt_sR M3 (pl 16) 7 (some (pl 48)) := ⟨_, rfl⟩
    have k : nt_rn X 99 104 (59, [(2, .ref (pl 31)), (1, .int (lb_ry (.inr u))), (0, .ref (pl 16))], [], nt_sR M3 (pl 16) 7 (some (pl 48))) (some (.int y1), M1) := k
    rw [← hM4] at k
    have k := ly_revb 2 (c' := (61, [(2, .ref (pl 31)), (1, .int (lb_ry (.inr u))), (0, .ref (pl 16))], [.ref (pl 31), .ref (pl 16)], M4)) rfl k
    have k := lz_putr rfl (by decide) k
    obtain ⟨M5, hM5⟩ : ∃ M5, M5 = nt_sR M4 (pl 16) 8 (some (pl 31)) := ⟨_, rfl⟩
    have k : nt_rn X 99 104 (64, [(2, .ref (pl 31)), (1, .int (lb_ry (.inr u))), (0, .ref (pl 16))], [], nt_sR M4 (pl 16) 8 (some (pl 31))) (some (.int y1), M1) := k
    rw [← hM5] at k
    have k := ly_revb 1 (c' := (65, [(2, .ref (pl 31)), (1, .int (lb_ry (.inr u))), (0, .ref (pl 16))], [.ref (pl 16)], M5)) rfl k
    have r7 : nt_R M5 (pl 16) 7 = some (pl 48) := by rw [hM5, me_Rk (by decide), hM4, me_Rs]
    have r0 : nt_R M5 (pl 48) 0 = some (pl 49) := by
      rw [hM5, me_Ro (ne 48 16 (by omega) (by omega) (by decide)), hM4, me_Ro (ne 48 16 (by omega) (by omega) (by decide)), eR]
      exact ly_ref (g := 48) (j := 0) (k := 49) hB2 (List.mem_of_getElem? (i := 50) rfl)
    have i1 : nt_I M5 (pl 49) 1 = nI u.2.2.1 := by
      have q : nt_I M5 (pl 49) 1 = nt_I M3 (pl 49) 1 := by rw [hM5, hM4]; rfl
      rw [q, eM3]
      show x64 (fun i => pl (48 + i)) (nt_I M2 (pl 31) 6) (nt_I M2) (pl 49) 1 = _
      rw [x64_frJ (ne 49 48 (by omega) (by omega) (by decide)) (ne 49 58 (by omega) (by omega) (by decide)) (ne 49 59 (by omega) (by omega) (by decide)) (ne 49 60 (by omega) (by omega) (by decide)) (ne 49 61 (by omega) (by omega) (by decide)) (ne 49 62 (by omega) (by omega) (by decide)) (ne 49 63 (by omega) (by omega) (by decide)) (ne 49 64 (by omega) (by omega) (by decide))]
      exact hJY.1.2.1
    have k := lz_get (a := pl 16) (g := 1007) (v := .ref (pl 48)) rfl (nt_gfR rfl r7) k
    have k := lz_get (a := pl 48) (g := 600) (v := .ref (pl 49)) rfl (nt_gfR rfl r0) k
    have k := lz_get (a := pl 49) (g := 801) (v := .int (nI u.2.2.1)) rfl (congrArg Value.int i1) k
    have k := lz_ri rfl (by decide) k
    have eI : nt_I M5 = nt_I M3 := by rw [hM5, hM4]; rfl
    exact ⟨n, _, hya, Or.inr ⟨u, rfl, (lq_out k).1, by rw [(lq_out k).2]; exact r7, hub, k0, D0, hyC, nt_I M2, hJY, by rw [(lq_out k).2, eI, eM3]; rfl⟩⟩
