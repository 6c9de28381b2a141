section
/-! behind yard the tape is empty -/
def kk_n_yard2 : sx_K := (104, 9, [(10, 0, 0, 8), (7, 0, 0, 4), (12, 400, 400, 0), (2, 0, 0, 5), (9, 0, 0, 0), (6, 0, 0, 15), (6, 0, 0, 15), (8, 0, 0, 1), (13, 24, 24, 0), (13, 24, 24, 2), (13, 24, 24, 0), (13, 24, 24, 0), (13, 8, 8, 3), (13, 8, 8, 0), (13, 8, 8, 0), (13, 8, 8, 0), (13, 6, 6, 0), (13, 6, 6, 0), (13, 6, 6, 0), (13, 24, 24, 0), (13, 24, 24, 0), (15, 24, 24, 0), (13, 8, 8, 0)], ([(1, 1, 1), (3, 1, 2), (6, 1, 6), (7, 0, 4), (8, 0, 2147483647), (9, 0, 2147483647), (10, 0, 2147483647), (11, 0, 2147483647), (12, 0, 2147483647), (13, 0, 2147483647), (14, 0, 2147483647), (15, 0, 2147483647), (16, 0, 2147483647), (17, 0, 2147483647), (18, 0, 2147483647), (19, 0, 2147483647), (20, 0, 2147483647), (21, 0, 2147483647), (22, 0, 2147483647)], [(0, 7), (0, 8), (4, 1)]), [(2, 0, (0, []))], ([((5, (6, [])), (0, [(0, 1)]))], [((0, (0, [])), 2), ((0, (1, [])), 5), ((0, (7, [])), 6), ((0, (8, [])), 7), ((4, (0, [])), 4), ((3, (0, [])), 2), ((1, (0, [])), 3), ((6, (0, [])), 8), ((7, (5, [])), 9), ((7, (6, [])), 10), ((7, (7, [])), 11), ((7, (8, [])), 12), ((7, (9, [])), 13), ((7, (10, [])), 14), ((7, (11, [])), 15), ((7, (12, [])), 16), ((6, (7, [])), 17), ((6, (8, [])), 18), ((6, (9, [])), 19), ((6, (10, [])), 20), ((6, (11, [])), 21), ((6, (12, [])), 22), ((6, (13, [])), 23)], ([(0, (-2147483648), 2147483647)], []), 1), [(some (0, 0, (0, [(1, 1)])), ([((5, (6, [])), (0, [(0, 1)])), ((1, (1, [])), (0, []))], [((0, (7, [])), 6), ((0, (8, [])), 7)], ([(1, (-2147483648), 2147483647)], []), 2)), (some (0, 0, (0, [(1, 1)])), ([((6, (6, [])), (0, [(0, 1)])), ((1, (1, [])), (0, []))], [((0, (7, [])), 7), ((0, (8, [])), 6)], ([(1, (-2147483648), 2147483647)], []), 2))])
def kh_n_yard2 : List (sx_A × sx_L) := []
def kk_readsAllY2 : sx_K := (134, 5, [(11, 0, 0, 9), (13, 2400, 2400, 0), (13, 288, 288, 0), (13, 6, 6, 14), (13, 212, 212, 10), (14, 64, 64, 0), (14, 10, 10, 0), (13, 212, 212, 10), (12, 400, 400, 0), (13, 400, 400, 0), (13, 7, 7, 13), (13, 24, 24, 0), (13, 72, 72, 11), (13, 32, 32, 12), (13, 848, 848, 16), (15, 4, 4, 0)], ([(0, 1, 1), (0, 7, 11), (0, 15, 17), (0, 19, 19), (0, 21, 21), (10, 0, 2147483647), (11, 0, 2147483647), (12, 0, 2147483647), (13, 0, 2147483647)], []), [(2, 0, (0, []))], ([((0, (18, [])), (0, [(0, 1)]))], [((0, (3, [])), 2), ((0, (5, [])), 3), ((0, (6, [])), 4), ((0, (27, [])), 5), ((0, (24, [])), 6), ((0, (26, [])), 7), ((0, (28, [])), 8), ((0, (0, [])), 9), ((0, (22, [])), 10), ((0, (4, [])), 11), ((0, (12, [])), 12), ((0, (13, [])), 13), ((0, (14, [])), 14), ((0, (29, [])), 15), ((0, (30, [])), 16)], ([(0, 6, 6)], []), 1), [(some (0, 0, (0, [(1, 1)])), ([((0, (1, [])), (0, []))], [], ([(1, 0, 1)], []), 2))])
def kh_readsAllY2 : List (sx_A × sx_L) := [((35, [(0, (2, 0, (0, []))), (1, (0, 0, (0, [(1, 1)])))], [], ([((0, (15, [])), (0, [(2, 1)])), ((0, (1, [])), (0, [(3, 1)])), ((0, (1, [])), (0, [(3, 1)])), ((0, (19, [])), (0, [])), ((10, (0, [(0, 1)])), (0, [])), ((0, (18, [])), (0, [(0, 1)]))], [((0, (3, [])), 2), ((0, (5, [])), 3), ((0, (6, [])), 4), ((0, (27, [])), 5), ((0, (24, [])), 6), ((0, (26, [])), 7), ((0, (28, [])), 8), ((0, (0, [])), 9), ((0, (22, [])), 10), ((0, (4, [])), 11), ((0, (12, [])), 12), ((0, (13, [])), 13), ((0, (14, [])), 14), ((0, (29, [])), 15), ((0, (30, [])), 16)], ([(0, 6, 6), (3, 0, 400), (2, 0, 400), (1, 0, 1)], []), 4)), (400, [(2, (-1))]))]
def kk_yard2 : sx_K := (166, 6, [(11, 0, 0, 9), (13, 2400, 2400, 0), (13, 288, 288, 0), (13, 6, 6, 14), (13, 212, 212, 10), (14, 64, 64, 0), (14, 10, 10, 0), (13, 212, 212, 10), (12, 400, 400, 0), (13, 400, 400, 0), (13, 7, 7, 13), (13, 24, 24, 0), (13, 72, 72, 11), (13, 32, 32, 12), (13, 848, 848, 16), (15, 4, 4, 0)], ([(0, 1, 1), (0, 7, 11), (0, 15, 19), (0, 21, 21), (4, 0, 211), (10, 0, 2147483647), (11, 0, 2147483647), (12, 0, 2147483647), (13, 0, 2147483647)], []), [(2, 0, (0, []))], ([((4, (9, [])), (0, [(0, 1)]))], [((0, (3, [])), 2), ((0, (5, [])), 3), ((0, (6, [])), 4), ((0, (27, [])), 5), ((0, (24, [])), 6), ((0, (26, [])), 7), ((0, (28, [])), 8), ((0, (0, [])), 9), ((0, (22, [])), 10), ((0, (4, [])), 11), ((0, (12, [])), 12), ((0, (13, [])), 13), ((0, (14, [])), 14), ((0, (29, [])), 15), ((0, (30, [])), 16)], ([(0, (-2147483648), 2147483647)], []), 1), [(some (0, 0, (0, [(1, 1)])), ([((4, (9, [])), (0, [(0, 1)])), ((0, (1, [])), (0, []))], [], ([(1, (-2147483648), 2147483647)], []), 2))])
def kh_yard2 : List (sx_A × sx_L) := [((56, [(0, (2, 0, (0, []))), (1, (0, 0, (0, [(0, 1)]))), (2, (0, 0, (0, [(1, 1)])))], [], ([((0, (1, [])), (0, [])), ((0, (18, [])), (6, []))], [((0, (3, [])), 2), ((0, (5, [])), 3), ((0, (6, [])), 4), ((0, (27, [])), 5), ((0, (24, [])), 6), ((0, (26, [])), 7), ((0, (28, [])), 8), ((0, (0, [])), 9), ((0, (22, [])), 10), ((0, (4, [])), 11), ((0, (12, [])), 12), ((0, (13, [])), 13), ((0, (14, [])), 14), ((0, (29, [])), 15), ((0, (30, [])), 16)], ([(0, (-2147483648), 2147483647), (1, 0, 212)], []), 2)), (73786976322755493887, [(1, (-1))])), ((148, [(0, (2, 0, (0, []))), (1, (0, 0, (0, [(0, 1)]))), (2, (0, 0, (0, [(1, 1)])))], [], ([((4, (9, [])), (0, [(0, 1)])), ((4, (5, [])), (0, [(2, 1)])), ((4, (3, [])), (0, [(3, 1)])), ((0, (10, [])), (0, [(3, 1)])), ((4, (2, [])), (0, [(4, 1)])), ((0, (9, [])), (0, [(4, 1)])), ((4, (1, [])), (0, [(5, 1)])), ((0, (8, [])), (0, [(5, 1)])), ((4, (0, [])), (0, [(6, 1)])), ((0, (7, [])), (0, [(6, 1)])), ((0, (1, [])), (0, [])), ((0, (18, [])), (6, []))], [((0, (3, [])), 2), ((0, (5, [])), 3), ((0, (6, [])), 4), ((0, (27, [])), 5), ((0, (24, [])), 6), ((0, (26, [])), 7), ((0, (28, [])), 8), ((0, (0, [])), 9), ((0, (22, [])), 10), ((0, (4, [])), 11), ((0, (12, [])), 12), ((0, (13, [])), 13), ((0, (14, [])), 14), ((0, (29, [])), 15), ((0, (30, [])), 16)], ([(0, (-2147483648), 2147483647), (6, 0, 4), (5, 0, 6), (4, 0, 24), (3, 0, 8), (2, 0, 2147483647), (1, 0, 6)], []), 7)), (18446744093036904447, [(1, (-8589934593))])), ((158, [(0, (2, 0, (0, []))), (1, (0, 0, (0, [(0, 1)]))), (2, (0, 0, (0, [(1, 1)]))), (3, (0, 0, (0, [(2, 1)])))], [], ([((4, (9, [])), (0, [(0, 1)])), ((4, (5, [])), (0, [(3, 1)])), ((4, (3, [])), (0, [(4, 1)])), ((0, (10, [])), (0, [(4, 1)])), ((4, (2, [])), (0, [(5, 1)])), ((0, (9, [])), (0, [(5, 1)])), ((4, (1, [])), (0, [(6, 1)])), ((0, (8, [])), (0, [(6, 1)])), ((4, (0, [])), (0, [(7, 1)])), ((0, (7, [])), (0, [(7, 1)])), ((0, (1, [])), (0, [])), ((0, (18, [])), (6, []))], [((0, (3, [])), 2), ((0, (5, [])), 3), ((0, (6, [])), 4), ((0, (27, [])), 5), ((0, (24, [])), 6), ((0, (26, [])), 7), ((0, (28, [])), 8), ((0, (0, [])), 9), ((0, (22, [])), 10), ((0, (4, [])), 11), ((0, (12, [])), 12), ((0, (13, [])), 13), ((0, (14, [])), 14), ((0, (29, [])), 15), ((0, (30, [])), 16)], ([(0, (-2147483648), 2147483647), (7, 0, 4), (6, 1, 6), (5, 0, 24), (4, 0, 8), (3, 0, 2147483647), (2, 0, 4), (1, 0, 5)], []), 8)), (18446744086594453502, [(1, (-8589934593)), (2, (-1))])), ((219, [(0, (2, 0, (0, []))), (1, (0, 0, (0, [(0, 1)]))), (2, (0, 0, (0, [(1, 1)])))], [], ([((4, (9, [])), (0, [(0, 1)])), ((4, (5, [])), (0, [(2, 1)])), ((4, (3, [])), (0, [(3, 1)])), ((0, (10, [])), (0, [(3, 1)])), ((4, (2, [])), (0, [(4, 1)])), ((0, (9, [])), (0, [(4, 1)])), ((4, (1, [])), (0, [(5, 1)])), ((0, (8, [])), (0, [(5, 1)])), ((4, (0, [])), (0, [(6, 1)])), ((0, (7, [])), (0, [(6, 1)])), ((0, (1, [])), (0, [])), ((0, (18, [])), (6, []))], [((0, (3, [])), 2), ((0, (5, [])), 3), ((0, (6, [])), 4), ((0, (27, [])), 5), ((0, (24, [])), 6), ((0, (26, [])), 7), ((0, (28, [])), 8), ((0, (0, [])), 9), ((0, (22, [])), 10), ((0, (4, [])), 11), ((0, (12, [])), 12), ((0, (13, [])), 13), ((0, (14, [])), 14), ((0, (29, [])), 15), ((0, (30, [])), 16)], ([(0, (-2147483648), 2147483647), (6, 0, 4), (5, 0, 6), (4, 0, 24), (3, 0, 8), (2, 0, 2147483647), (1, 0, 24)], []), 7)), (10737418239, [(1, (-1))])), ((285, [(0, (2, 0, (0, []))), (1, (0, 0, (0, [(0, 1)]))), (2, (0, 0, (0, [(1, 1)])))], [], ([((4, (9, [])), (0, [(0, 1)])), ((4, (5, [])), (0, [(2, 1)])), ((4, (3, [])), (0, [(3, 1)])), ((0, (10, [])), (0, [(3, 1)])), ((4, (2, [])), (0, [(4, 1)])), ((0, (9, [])), (0, [(4, 1)])), ((4, (1, [])), (0, [(5, 1)])), ((0, (8, [])), (0, [(5, 1)])), ((4, (0, [])), (0, [(6, 1)])), ((0, (7, [])), (0, [(6, 1)])), ((0, (1, [])), (0, [])), ((0, (18, [])), (6, []))], [((0, (3, [])), 2), ((0, (5, [])), 3), ((0, (6, [])), 4), ((0, (27, [])), 5), ((0, (24, [])), 6), ((0, (26, [])), 7), ((0, (28, [])), 8), ((0, (0, [])), 9), ((0, (22, [])), 10), ((0, (4, [])), 11), ((0, (12, [])), 12), ((0, (13, [])), 13), ((0, (14, [])), 14), ((0, (29, [])), 15), ((0, (30, [])), 16)], ([(0, (-2147483648), 2147483647), (6, 0, 4), (5, 0, 6), (4, 0, 24), (3, 0, 8), (2, 0, 2147483647), (1, 0, 8)], []), 7)), (2147483647, [(1, (-1))]))]
theorem kc_n_yard2 : sx_chk (sx_tbs, []) [kk_begin, kk_yread] kk_n_yard2 kh_n_yard2 3000 = true := by decide +kernel
theorem ko_n_yard2 (X : nt_X) : sx_KOK X (sx_tbs, []) kk_n_yard2 := sx_keeps (Ks := [kk_begin, kk_yread]) (fun K h => by
    rcases List.mem_cons.mp h with e | h
    · rw [e]; exact ko_begin X
    rcases List.mem_cons.mp h with e | h
    · rw [e]; exact ko_yread X
    cases h) kc_n_yard2
theorem kc_readsAllY2 : sx_chk (sx_tbs, []) [kk_fails, kk_see, kk_clauseHereY] kk_readsAllY2 kh_readsAllY2 3000 = true := by decide +kernel
theorem ko_readsAllY2 (X : nt_X) : sx_KOK X (sx_tbs, []) kk_readsAllY2 := sx_keeps (Ks := [kk_fails, kk_see, kk_clauseHereY]) (fun K h => by
    rcases List.mem_cons.mp h with e | h
    · rw [e]; exact ko_fails X
    rcases List.mem_cons.mp h with e | h
    · rw [e]; exact ko_see X
    rcases List.mem_cons.mp h with e | h
    · rw [e]; exact ko_clauseHereY X
    cases h) kc_readsAllY2
theorem kc_yard2 : sx_chk (sx_tbs, []) [kk_readsAllY2] kk_yard2 kh_yard2 3000 = true := by decide +kernel
theorem ko_yard2 (X : nt_X) : sx_KOK X (sx_tbs, []) kk_yard2 := sx_keeps (Ks := [kk_readsAllY2]) (fun K h => by
    rcases List.mem_cons.mp h with e | h
    · rw [e]; exact ko_readsAllY2 X
    cases h) kc_yard2
def kk_w_n_yard2 : sx_K := (104, 9, ly_D, ([(17, 1, 1), (19, 1, 2), (48, 1, 6), (49, 0, 4), (50, 0, 2147483647), (51, 0, 2147483647), (52, 0, 2147483647), (53, 0, 2147483647), (54, 0, 2147483647), (55, 0, 2147483647), (56, 0, 2147483647), (57, 0, 2147483647), (58, 0, 2147483647), (59, 0, 2147483647), (60, 0, 2147483647), (61, 0, 2147483647), (62, 0, 2147483647), (63, 0, 2147483647), (64, 0, 2147483647)], [(16, 7), (16, 8), (20, 1)]), [(2, 16, (0, []))], (ly_C, ly_R, (ly_b, []), 11), [(some (0, 0, (0, [(11, 1)])), ([((17, (1, [])), (0, []))], [], ([(11, (-2147483648), 2147483647)], []), 12)), (some (0, 0, (0, [(11, 1)])), ([((17, (1, [])), (0, []))], [], ([(11, (-2147483648), 2147483647)], []), 12))])
theorem kc_w_n_yard2 : sx_wkc (sx_tbs, sx_gps) kk_n_yard2 kk_w_n_yard2 = true := by decide +kernel
theorem ko_w_n_yard2 (X : nt_X) : sx_KOK X (sx_tbs, sx_gps) kk_w_n_yard2 := sx_wk (sx_lift (by decide +kernel) (ko_n_yard2 X)) kc_w_n_yard2
def kk_w_yard2 : sx_K := (166, 6, ly_D, ([(0, 1, 1), (0, 7, 11), (0, 15, 19), (0, 21, 21), (4, 0, 211), (10, 0, 2147483647), (11, 0, 2147483647), (12, 0, 2147483647), (13, 0, 2147483647)], []), [(2, 0, (0, []))], (ly_C, ly_R, (ly_b, []), 11), [(some (0, 0, (0, [(11, 1)])), ([((0, (1, [])), (0, []))], [], ([(11, (-2147483648), 2147483647)], []), 12))])
theorem kc_w_yard2 : sx_wkc (sx_tbs, sx_gps) kk_yard2 kk_w_yard2 = true := by decide +kernel
theorem ko_w_yard2 (X : nt_X) : sx_KOK X (sx_tbs, sx_gps) kk_w_yard2 := sx_wk (sx_lift (by decide +kernel) (ko_yard2 X)) kc_w_yard2
theorem lq_Tx {K : sx_K} {pl : Nat → Nat} {M M' : nt_M} {x0 : Nat × Int × Int} (hn : 66 ≤ K.2.2.1.length) (hij : sx_ij (sx_KE (sx_tbs, sx_gps) K) pl) (hmo : K.2.2.2.1.1.all (fun q => (Nat.beq q.1 x0.1 && (decide (q.2.1 = x0.2.1) && decide (q.2.2 = x0.2.2))) || lq_o q) = true) (h : sx_fm (sx_KE (sx_tbs, sx_gps) K) pl M M') (g j : Nat) (hc : lq_c g j) (hx : ¬ (g = x0.1 ∧ x0.2.1 ≤ (j : Int) ∧ (j : Int) ≤ x0.2.2)) : nt_I M' (pl g) j = nt_I M (pl g) j := by
  refine h.2.1 _ j fun q hq hl hz => ?_
  have hg := lq_c66 hc
  have e := hij g q.1 (by show g < K.2.2.1.length; omega) hl hz.1
  have l := List.all_eq_true.mp hmo q hq
  rw [Bool.or_eq_true, Bool.and_eq_true, Bool.and_eq_true] at l
  rcases l with l | l
  · have a := Nat.eq_of_beq_eq_true l.1
    have b := of_decide_eq_true l.2.1
    have c := of_decide_eq_true l.2.2
    exact hx ⟨e.trans a, by rw [← b]; exact hz.2.1, by rw [← c]; exact hz.2.2⟩
  · exact lq_oc l (e ▸ hc) hz.2.1 hz.2.2
theorem lq_yardC {X : nt_X} {pl : Nat → Nat} {v : Nat → Int} {M : nt_M} {d : Nat} {o : Option Value × nt_M} (hd : 9 ≤ d) (hB : ly_B pl v M) (k : nt_ev X d 104 [.ref (pl 16)] M o) : nt_I o.2 (pl 17) 1 = nI 0 ∧ (∀ g j, lq_c g j → g ≠ 17 → nt_I o.2 (pl g) j = nt_I M (pl g) j) ∧ ∀ g j, (g = 31 ∨ g = 4 ∨ g = 14) → nt_I o.2 (pl g) j = nt_I M (pl g) j := by
  have hij := ly_ij (K := kk_w_n_yard2) rfl hB
  have hon := ly_app (K := kk_w_n_yard2) (r := v) (ed := []) (ec := []) (er := []) rfl hB (fun _ _ => rfl) (fun _ _ => rfl) hij ly_nil (fun q hq => by cases hq) (fun q hq => by cases hq) (ly_ob hB) ly_oc0
  obtain ⟨o', h1, p, hp, r', h2, h3⟩ := ly_run (ko_w_n_yard2 X) hd (vs := [.ref (pl 16)]) ⟨rfl, trivial⟩ hon
  have e : o = o' := lz_det k h1
  subst e
  refine ⟨?_, fun g j hc h17 => lq_Tx (x0 := (17, 1, 1)) (Nat.le_of_eq rfl) hij (by decide +kernel) h3.2.2.2.2.2.2 g j hc (fun h => h17 h.1), fun g j hg => h3.2.2.2.2.2.2.2.1 _ j fun q hq hl hz => ?_⟩
  · have key : ∃ q ∈ p.2.1, q = ((17, (1, [])), (0, [])) := by
      rcases List.mem_cons.mp hp with rfl | hp
      · exact ⟨_, List.Mem.head _, rfl⟩
      · rw [List.mem_singleton.mp hp]
        exact ⟨_, List.Mem.head _, rfl⟩
    obtain ⟨q, hq, eq⟩ := key
    have h := (h3.2.2.1 q hq).2
    rw [eq] at h
    dsimp only at h
    rw [sx_c_e, sx_c_e] at h
    unfold sx_rd at h
    rw [if_neg (by decide), if_neg (by decide)] at h
    exact Int32.toInt_inj.mp h
  · have e := hij g q.1 (by show g < 66; omega) hl hz.1
    have l := List.all_eq_true.mp (show kk_w_n_yard2.2.2.2.1.1.all (fun q => !Nat.beq q.1 31 && (!Nat.beq q.1 4 && !Nat.beq q.1 14)) = true from by decide +kernel) q hq
    rw [← e] at l
    rcases hg with rfl | rfl | rfl <;> exact absurd l (by decide)
theorem lq_yardR {X : nt_X} {pl : Nat → Nat} {v : Nat → Int} {M : nt_M} {d : Nat} {o : Option Value × nt_M} (hd : 6 ≤ d) (hB : ly_B pl v M) (k : nt_ev X d 166 [.ref (pl 0)] M o) : nt_I o.2 (pl 0) 1 = nI 0 ∧ (∀ g j, lq_c g j → ¬ (g = 0 ∧ j = 1) → nt_I o.2 (pl g) j = nt_I M (pl g) j) ∧ ∀ g j, (g = 31 ∨ g = 14) → nt_I o.2 (pl g) j = nt_I M (pl g) j := by
  have hij := ly_ij (K := kk_w_yard2) rfl hB
  have hon := ly_app (K := kk_w_yard2) (r := v) (ed := []) (ec := []) (er := []) rfl hB (fun _ _ => rfl) (fun _ _ => rfl) hij ly_nil (fun q hq => by cases hq) (fun q hq => by cases hq) (ly_ob hB) ly_oc0
  obtain ⟨o', h1, p, hp, r', h2, h3⟩ := ly_run (ko_w_yard2 X) hd (vs := [.ref (pl 0)]) ⟨rfl, trivial⟩ hon
  have e : o = o' := lz_det k h1
  subst e
  refine ⟨?_, fun g j hc h01 => lq_Tx (x0 := (0, 1, 1)) (Nat.le_of_eq rfl) hij (by decide +kernel) h3.2.2.2.2.2.2 g j hc (fun h => h01 ⟨h.1, by have := h.2; dsimp only at this; omega⟩), fun g j hg => h3.2.2.2.2.2.2.2.1 _ j fun q hq hl hz => ?_⟩
  · rw [List.mem_singleton.mp hp] at h3
    have h := (h3.2.2.1 ((0, (1, [])), (0, [])) (List.Mem.head _)).2
    dsimp only at h
    rw [sx_c_e, sx_c_e] at h
    unfold sx_rd at h
    rw [if_neg (by decide), if_neg (by decide)] at h
    exact Int32.toInt_inj.mp h
  · have e := hij g q.1 (by show g < 66; omega) hl hz.1
    have l := List.all_eq_true.mp (show kk_w_yard2.2.2.2.1.1.all (fun q => !Nat.beq q.1 31 && !Nat.beq q.1 14) = true from by decide +kernel) q hq
    rw [← e] at l
    rcases hg with rfl | rfl <;> exact absurd l (by decide)
end
section
/-! the tapes: fed and cut, both sides -/
theorem me_bast {X : nt_X} {d mi pc a g t q : Nat} {ls : nt_V} {st : List Value} {M : nt_M} {J : Nat → Nat → Int32} {o : Option Value × nt_M} {i x : Int32} (hat : nt_at mi pc = some (pc, .bastore, g, t)) (hk : nt_k M a = 12) (hi : i = nI q) (hq : q < 2 ^ 31) (k : nt_rn X d mi (pc, ls, .int x :: .int i :: .ref a :: st, me_w M J) o) : nt_rn X d mi (pc + 1, ls, st, me_w M (nt_u J a q (vp_nar .byte x))) o := by
  obtain ⟨c', hs, k⟩ := lz_s hat rfl k
  have hs : (if nt_k M a = 15 then nt_in (me_w M J) a 15 i (some (pc + 1, ls, st, nt_sI (me_w M J) a i.toNatClampNeg (vp_nar .boolean x))) else nt_in (me_w M J) a 12 i (some (pc + 1, ls, st, nt_sI (me_w M J) a i.toNatClampNeg (vp_nar .byte x)))) = some c' := hs
  rw [if_neg (by rw [hk]; decide)] at hs
  have e := lz_in (y := none) hs
  cases e
  rw [hi, nI_clamp hq] at k
  exact k
def lq_y (v k : Int32) : Int32 := vp_nar .byte (v >>> (k &&& 31)).toInt8.toInt32
theorem lq_yb {v k : Int32} : -128 ≤ (lq_y v k).toInt ∧ (lq_y v k).toInt ≤ 127 := by
  unfold lq_y
  have e : vp_nar .byte (v >>> (k &&& 31)).toInt8.toInt32 = ((v >>> (k &&& 31)).toInt8.toInt32.toInt8).toInt32 := rfl
  rw [e, Int8.toInt_toInt32]
  have a := ((v >>> (k &&& 31)).toInt8.toInt32.toInt8).le_toInt
  have b := ((v >>> (k &&& 31)).toInt8.toInt32.toInt8).toInt_lt
  have b : ((v >>> (k &&& 31)).toInt8.toInt32.toInt8).toInt < 128 := b
  have a : -128 ≤ ((v >>> (k &&& 31)).toInt8.toInt32.toInt8).toInt := a
  omega
def lq_w (g : Nat → Int32) (p : Nat) (v : Int32) (j : Nat) : Int32 := if j = p + 3 then lq_y v (Int32.ofInt 0) else if j = p + 2 then lq_y v (Int32.ofInt 8) else if j = p + 1 then lq_y v (Int32.ofInt 16) else if j = p then lq_y v (Int32.ofInt 24) else g j
theorem lq_wb {g : Nat → Int32} {p : Nat} {v : Int32} (h : ∀ j, -128 ≤ (g j).toInt ∧ (g j).toInt ≤ 127) (j : Nat) : -128 ≤ (lq_w g p v j).toInt ∧ (lq_w g p v j).toInt ≤ 127 := by
  unfold lq_w
  by_cases h1 : j = p + 3
  · rw [if_pos h1]; exact lq_yb
  rw [if_neg h1]
  by_cases h2 : j = p + 2
  · rw [if_pos h2]; exact lq_yb
  rw [if_neg h2]
  by_cases h3 : j = p + 1
  · rw [if_pos h3]; exact lq_yb
  rw [if_neg h3]
  by_cases h4 : j = p
  · rw [if_pos h4]; exact lq_yb
  rw [if_neg h4]
  exact h j
theorem me_ur {J : Nat → Nat → Int32} {a k j : Nat} {v : Int32} : nt_u J a k v a j = if j = k then v else J a j := if_pos rfl
def lq_f (g : Nat → Int32) (p : Nat) (a b c d e : Int32) : Nat → Int32 := lq_w (lq_w (lq_w (lq_w (lq_w g p a) (p + 4) b) (p + 8) c) (p + 12) d) (p + 16) e
theorem lq_append {X : nt_X} {d T Y p : Nat} {M : nt_M} {J : Nat → Nat → Int32} {o : Option Value × nt_M} {v : Int32} (hr : nt_R M T 0 = some Y) (hYT : Y ≠ T) (hk : nt_k M Y = 12) (hl : J T 1 = nI p) (hp : p + 4 ≤ 400) (k : nt_ev X d 84 [.ref T, .int v] (me_w M J) o) : ∃ J', o = (none, me_w M J') ∧ J' T 1 = nI (p + 4) ∧ J' Y = lq_w (J Y) p v ∧ (∀ i, i ≠ 1 → J' T i = J T i) ∧ (∀ a, a ≠ T → a ≠ Y → J' a = J a) := by
  have k : nt_rn X d 84 (0, [(0, .ref T), (1, .int v)], [], me_w M J) o := k
  have k := ly_revb 4 (c' := (if (Int32.ofInt 24) < 0 then 46 else 7, [(2, .int (Int32.ofInt 24)), (0, .ref T), (1, .int (v))], [], me_w M J)) rfl k
  rw [if_neg (show ¬ ((Int32.ofInt 24) < 0) from by decide)] at k
  have k := ly_revb 1 (c' := (8, [(2, .int (Int32.ofInt 24)), (0, .ref T), (1, .int (v))], [.ref T], me_w M J)) rfl k
  have k := lz_get (a := T) (g := 701) (M := me_w M J) (v := .int (nI p)) rfl (congrArg Value.int (hl)) k
  have k := ly_revb 2 (c' := (if (Int32.ofInt 400) ≤ (nI p) then 46 else 17, [(2, .int (Int32.ofInt 24)), (0, .ref T), (1, .int (v))], [], me_w M J)) rfl k
  rw [if_neg (show ¬ ((Int32.ofInt 400) ≤ (nI p)) from show ¬ nI 400 ≤ nI p from nI_ge (Nat.not_le.mp (by omega)) (by omega))] at k
  have k := ly_revb 1 (c' := (18, [(2, .int (Int32.ofInt 24)), (0, .ref T), (1, .int (v))], [.ref T], me_w M J)) rfl k
  have k := lz_get (a := T) (g := 700) (M := me_w M J) (v := .ref Y) rfl (nt_gfR rfl hr) k
  have k := ly_revb 1 (c' := (22, [(2, .int (Int32.ofInt 24)), (0, .ref T), (1, .int (v))], [.ref T, .ref Y], me_w M J)) rfl k
  have k := lz_get (a := T) (g := 701) (M := me_w M J) (v := .int (nI p)) rfl (congrArg Value.int (hl)) k
  have k := ly_revb 4 (c' := (29, [(2, .int (Int32.ofInt 24)), (0, .ref T), (1, .int (v))], [.int ((v >>> ((Int32.ofInt 24) &&& 31)).toInt8.toInt32), .int (nI p), .ref Y], me_w M J)) rfl k
  have k := me_bast (q := p) rfl (hk) rfl (by omega) k
  have k := ly_revb 2 (c' := (32, [(2, .int (Int32.ofInt 24)), (0, .ref T), (1, .int (v))], [.ref T, .ref T], me_w M (nt_u J Y p (vp_nar .byte ((v >>> ((Int32.ofInt 24) &&& 31)).toInt8.toInt32))))) rfl k
  have k := lz_get (a := T) (g := 701) (M := me_w M (nt_u J Y p (vp_nar .byte ((v >>> ((Int32.ofInt 24) &&& 31)).toInt8.toInt32)))) (v := .int (nI p)) rfl (congrArg Value.int ((me_uj (Ne.symm hYT)).trans (hl))) k
  have k := ly_revb 2 (c' := (37, [(2, .int (Int32.ofInt 24)), (0, .ref T), (1, .int (v))], [.int ((nI p) + (Int32.ofInt 1)), .ref T], me_w M (nt_u J Y p (vp_nar .byte ((v >>> ((Int32.ofInt 24) &&& 31)).toInt8.toInt32))))) rfl k
  rw [show ((nI p) + (Int32.ofInt 1) : Int32) = nI (p + 1) from me_add (k := 1)] at k
  have k := me_put rfl (by decide) k
  have k : nt_rn X _ 84 (40, [(2, .int (Int32.ofInt 24)), (0, .ref T), (1, .int (v))], [], me_w M (nt_u (nt_u J Y p (vp_nar .byte ((v >>> ((Int32.ofInt 24) &&& 31)).toInt8.toInt32))) T 1 (nI (p + 1)))) _ := k
  have k := ly_revb 2 (c' := (3, [(2, .int ((Int32.ofInt 24) + Int32.ofInt (-8))), (0, .ref T), (1, .int (v))], [], me_w M (nt_u (nt_u J Y p (vp_nar .byte ((v >>> ((Int32.ofInt 24) &&& 31)).toInt8.toInt32))) T 1 (nI (p + 1))))) rfl k
  rw [show ((Int32.ofInt 24) + Int32.ofInt (-8) : Int32) = Int32.ofInt 16 from by decide] at k
  have k := ly_revb 2 (c' := (if (Int32.ofInt 16) < 0 then 46 else 7, [(2, .int (Int32.ofInt 16)), (0, .ref T), (1, .int (v))], [], me_w M (nt_u (nt_u J Y p (vp_nar .byte ((v >>> ((Int32.ofInt 24) &&& 31)).toInt8.toInt32))) T 1 (nI (p + 1))))) rfl k
  rw [if_neg (show ¬ ((Int32.ofInt 16) < 0) from by decide)] at k
  have k := ly_revb 1 (c' := (8, [(2, .int (Int32.ofInt 16)), (0, .ref T), (1, .int (v))], [.ref T], me_w M (nt_u (nt_u J Y p (vp_nar .byte ((v >>> ((Int32.ofInt 24) &&& 31)).toInt8.toInt32))) T 1 (nI (p + 1))))) rfl k
  have k := lz_get (a := T) (g := 701) (M := me_w M (nt_u (nt_u J Y p (vp_nar .byte ((v >>> ((Int32.ofInt 24) &&& 31)).toInt8.toInt32))) T 1 (nI (p + 1)))) (v := .int (nI (p + 1))) rfl (congrArg Value.int (me_us)) k
  have k := ly_revb 2 (c' := (if (Int32.ofInt 400) ≤ (nI (p + 1)) then 46 else 17, [(2, .int (Int32.ofInt 16)), (0, .ref T), (1, .int (v))], [], me_w M (nt_u (nt_u J Y p (vp_nar .byte ((v >>> ((Int32.ofInt 24) &&& 31)).toInt8.toInt32))) T 1 (nI (p + 1))))) rfl k
  rw [if_neg (show ¬ ((Int32.ofInt 400) ≤ (nI (p + 1))) from show ¬ nI 400 ≤ nI ((p + 1)) from nI_ge (Nat.not_le.mp (by omega)) (by omega))] at k
  have k := ly_revb 1 (c' := (18, [(2, .int (Int32.ofInt 16)), (0, .ref T), (1, .int (v))], [.ref T], me_w M (nt_u (nt_u J Y p (vp_nar .byte ((v >>> ((Int32.ofInt 24) &&& 31)).toInt8.toInt32))) T 1 (nI (p + 1))))) rfl k
  have k := lz_get (a := T) (g := 700) (M := me_w M (nt_u (nt_u J Y p (vp_nar .byte ((v >>> ((Int32.ofInt 24) &&& 31)).toInt8.toInt32))) T 1 (nI (p + 1)))) (v := .ref Y) rfl (nt_gfR rfl hr) k
  have k := ly_revb 1 (c' := (22, [(2, .int (Int32.ofInt 16)), (0, .ref T), (1, .int (v))], [.ref T, .ref Y], me_w M (nt_u (nt_u J Y p (vp_nar .byte ((v >>> ((Int32.ofInt 24) &&& 31)).toInt8.toInt32))) T 1 (nI (p + 1))))) rfl k
  have k := lz_get (a := T) (g := 701) (M := me_w M (nt_u (nt_u J Y p (vp_nar .byte ((v >>> ((Int32.ofInt 24) &&& 31)).toInt8.toInt32))) T 1 (nI (p + 1)))) (v := .int (nI (p + 1))) rfl (congrArg Value.int (me_us)) k
  have k := ly_revb 4 (c' := (29, [(2, .int (Int32.ofInt 16)), (0, .ref T), (1, .int (v))], [.int ((v >>> ((Int32.ofInt 16) &&& 31)).toInt8.toInt32), .int (nI (p + 1)), .ref Y], me_w M (nt_u (nt_u J Y p (vp_nar .byte ((v >>> ((Int32.ofInt 24) &&& 31)).toInt8.toInt32))) T 1 (nI (p + 1))))) rfl k
  have k := me_bast (q := (p + 1)) rfl (hk) rfl (by omega) k
  have k := ly_revb 2 (c' := (32, [(2, .int (Int32.ofInt 16)), (0, .ref T), (1, .int (v))], [.ref T, .ref T], me_w M (nt_u (nt_u (nt_u J Y p (vp_nar .byte ((v >>> ((Int32.ofInt 24) &&& 31)).toInt8.toInt32))) T 1 (nI (p + 1))) Y ((p + 1)) (vp_nar .byte ((v >>> ((Int32.ofInt 16) &&& 31)).toInt8.toInt32))))) rfl k
  have k := lz_get (a := T) (g := 701) (M := me_w M (nt_u (nt_u (nt_u J Y p (vp_nar .byte ((v >>> ((Int32.ofInt 24) &&& 31)).toInt8.toInt32))) T 1 (nI (p + 1))) Y ((p + 1)) (vp_nar .byte ((v >>> ((Int32.ofInt 16) &&& 31)).toInt8.toInt32)))) (v := .int (nI (p + 1))) rfl (congrArg Value.int ((me_uj (Ne.symm hYT)).trans (me_us))) k
  have k := ly_revb 2 (c' := (37, [(2, .int (Int32.ofInt 16)), (0, .ref T), (1, .int (v))], [.int ((nI (p + 1)) + (Int32.ofInt 1)), .ref T], me_w M (nt_u (nt_u (nt_u J Y p (vp_nar .byte ((v >>> ((Int32.ofInt 24) &&& 31)).toInt8.toInt32))) T 1 (nI (p + 1))) Y ((p + 1)) (vp_nar .byte ((v >>> ((Int32.ofInt 16) &&& 31)).toInt8.toInt32))))) rfl k
  rw [show ((nI (p + 1)) + (Int32.ofInt 1) : Int32) = nI ((p + 1) + 1) from me_add (k := 1)] at k
  have k := me_put rfl (by decide) k
  have k : nt_rn X _ 84 (40, [(2, .int (Int32.ofInt 16)), (0, .ref T), (1, .int (v))], [], me_w M (nt_u (nt_u (nt_u (nt_u J Y p (vp_nar .byte ((v >>> ((Int32.ofInt 24) &&& 31)).toInt8.toInt32))) T 1 (nI (p + 1))) Y ((p + 1)) (vp_nar .byte ((v >>> ((Int32.ofInt 16) &&& 31)).toInt8.toInt32))) T 1 (nI ((p + 1) + 1)))) _ := k
  have k := ly_revb 2 (c' := (3, [(2, .int ((Int32.ofInt 16) + Int32.ofInt (-8))), (0, .ref T), (1, .int (v))], [], me_w M (nt_u (nt_u (nt_u (nt_u J Y p (vp_nar .byte ((v >>> ((Int32.ofInt 24) &&& 31)).toInt8.toInt32))) T 1 (nI (p + 1))) Y ((p + 1)) (vp_nar .byte ((v >>> ((Int32.ofInt 16) &&& 31)).toInt8.toInt32))) T 1 (nI ((p + 1) + 1))))) rfl k
  rw [show ((Int32.ofInt 16) + Int32.ofInt (-8) : Int32) = Int32.ofInt 8 from by decide] at k
  have k := ly_revb 2 (c' := (if (Int32.ofInt 8) < 0 then 46 else 7, [(2, .int (Int32.ofInt 8)), (0, .ref T), (1, .int (v))], [], me_w M (nt_u (nt_u (nt_u (nt_u J Y p (vp_nar .byte ((v >>> ((Int32.ofInt 24) &&& 31)).toInt8.toInt32))) T 1 (nI (p + 1))) Y ((p + 1)) (vp_nar .byte ((v >>> ((Int32.ofInt 16) &&& 31)).toInt8.toInt32))) T 1 (nI ((p + 1) + 1))))) rfl k
  rw [if_neg (show ¬ ((Int32.ofInt 8) < 0) from by decide)] at k
  have k := ly_revb 1 (c' := (8, [(2, .int (Int32.ofInt 8)), (0, .ref T), (1, .int (v))], [.ref T], me_w M (nt_u (nt_u (nt_u (nt_u J Y p (vp_nar .byte ((v >>> ((Int32.ofInt 24) &&& 31)).toInt8.toInt32))) T 1 (nI (p + 1))) Y ((p + 1)) (vp_nar .byte ((v >>> ((Int32.ofInt 16) &&& 31)).toInt8.toInt32))) T 1 (nI ((p + 1) + 1))))) rfl k
  have k := lz_get (a := T) (g := 701) (M := me_w M (nt_u (nt_u (nt_u (nt_u J Y p (vp_nar .byte ((v >>> ((Int32.ofInt 24) &&& 31)).toInt8.toInt32))) T 1 (nI (p + 1))) Y ((p + 1)) (vp_nar .byte ((v >>> ((Int32.ofInt 16) &&& 31)).toInt8.toInt32))) T 1 (nI ((p + 1) + 1)))) (v := .int (nI (p + 2))) rfl (congrArg Value.int (me_us)) k
  have k := ly_revb 2 (c' := (if (Int32.ofInt 400) ≤ (nI (p + 2)) then 46 else 17, [(2, .int (Int32.ofInt 8)), (0, .ref T), (1, .int (v))], [], me_w M (nt_u (nt_u (nt_u (nt_u J Y p (vp_nar .byte ((v >>> ((Int32.ofInt 24) &&& 31)).toInt8.toInt32))) T 1 (nI (p + 1))) Y ((p + 1)) (vp_nar .byte ((v >>> ((Int32.ofInt 16) &&& 31)).toInt8.toInt32))) T 1 (nI ((p + 1) + 1))))) rfl k
  rw [if_neg (show ¬ ((Int32.ofInt 400) ≤ (nI (p + 2))) from show ¬ nI 400 ≤ nI ((p + 2)) from nI_ge (Nat.not_le.mp (by omega)) (by omega))] at k
  have k := ly_revb 1 (c' := (18, [(2, .int (Int32.ofInt 8)), (0, .ref T), (1, .int (v))], [.ref T], me_w M (nt_u (nt_u (nt_u (nt_u J Y p (vp_nar .byte ((v >>> ((Int32.ofInt 24) &&& 31)).toInt8.toInt32))) T 1 (nI (p + 1))) Y ((p + 1)) (vp_nar .byte ((v >>> ((Int32.ofInt 16) &&& 31)).toInt8.toInt32))) T 1 (nI ((p + 1) + 1))))) rfl k
  have k := lz_get (a := T) (g := 700) (M := me_w M (nt_u (nt_u (nt_u (nt_u J Y p (vp_nar .byte ((v >>> ((Int32.ofInt 24) &&& 31)).toInt8.toInt32))) T 1 (nI (p + 1))) Y ((p + 1)) (vp_nar .byte ((v >>> ((Int32.ofInt 16) &&& 31)).toInt8.toInt32))) T 1 (nI ((p + 1) + 1)))) (v := .ref Y) rfl (nt_gfR rfl hr) k
  have k := ly_revb 1 (c' := (22, [(2, .int (Int32.ofInt 8)), (0, .ref T), (1, .int (v))], [.ref T, .ref Y], me_w M (nt_u (nt_u (nt_u (nt_u J Y p (vp_nar .byte ((v >>> ((Int32.ofInt 24) &&& 31)).toInt8.toInt32))) T 1 (nI (p + 1))) Y ((p + 1)) (vp_nar .byte ((v >>> ((Int32.ofInt 16) &&& 31)).toInt8.toInt32))) T 1 (nI ((p + 1) + 1))))) rfl k
  have k := lz_get (a := T) (g := 701) (M := me_w M (nt_u (nt_u (nt_u (nt_u J Y p (vp_nar .byte ((v >>> ((Int32.ofInt 24) &&& 31)).toInt8.toInt32))) T 1 (nI (p + 1))) Y ((p + 1)) (vp_nar .byte ((v >>> ((Int32.ofInt 16) &&& 31)).toInt8.toInt32))) T 1 (nI ((p + 1) + 1)))) (v := .int (nI (p + 2))) rfl (congrArg Value.int (me_us)) k
  have k := ly_revb 4 (c' := (29, [(2, .int (Int32.ofInt 8)), (0, .ref T), (1, .int (v))], [.int ((v >>> ((Int32.ofInt 8) &&& 31)).toInt8.toInt32), .int (nI (p + 2)), .ref Y], me_w M (nt_u (nt_u (nt_u (nt_u J Y p (vp_nar .byte ((v >>> ((Int32.ofInt 24) &&& 31)).toInt8.toInt32))) T 1 (nI (p + 1))) Y ((p + 1)) (vp_nar .byte ((v >>> ((Int32.ofInt 16) &&& 31)).toInt8.toInt32))) T 1 (nI ((p + 1) + 1))))) rfl k
  have k := me_bast (q := (p + 2)) rfl (hk) rfl (by omega) k
  have k := ly_revb 2 (c' := (32, [(2, .int (Int32.ofInt 8)), (0, .ref T), (1, .int (v))], [.ref T, .ref T], me_w M (nt_u (nt_u (nt_u (nt_u (nt_u J Y p (vp_nar .byte ((v >>> ((Int32.ofInt 24) &&& 31)).toInt8.toInt32))) T 1 (nI (p + 1))) Y ((p + 1)) (vp_nar .byte ((v >>> ((Int32.ofInt 16) &&& 31)).toInt8.toInt32))) T 1 (nI ((p + 1) + 1))) Y ((p + 2)) (vp_nar .byte ((v >>> ((Int32.ofInt 8) &&& 31)).toInt8.toInt32))))) rfl k
  have k := lz_get (a := T) (g := 701) (M := me_w M (nt_u (nt_u (nt_u (nt_u (nt_u J Y p (vp_nar .byte ((v >>> ((Int32.ofInt 24) &&& 31)).toInt8.toInt32))) T 1 (nI (p + 1))) Y ((p + 1)) (vp_nar .byte ((v >>> ((Int32.ofInt 16) &&& 31)).toInt8.toInt32))) T 1 (nI ((p + 1) + 1))) Y ((p + 2)) (vp_nar .byte ((v >>> ((Int32.ofInt 8) &&& 31)).toInt8.toInt32)))) (v := .int (nI (p + 2))) rfl (congrArg Value.int ((me_uj (Ne.symm hYT)).trans (me_us))) k
  have k := ly_revb 2 (c' := (37, [(2, .int (Int32.ofInt 8)), (0, .ref T), (1, .int (v))], [.int ((nI (p + 2)) + (Int32.ofInt 1)), .ref T], me_w M (nt_u (nt_u (nt_u (nt_u (nt_u J Y p (vp_nar .byte ((v >>> ((Int32.ofInt 24) &&& 31)).toInt8.toInt32))) T 1 (nI (p + 1))) Y ((p + 1)) (vp_nar .byte ((v >>> ((Int32.ofInt 16) &&& 31)).toInt8.toInt32))) T 1 (nI ((p + 1) + 1))) Y ((p + 2)) (vp_nar .byte ((v >>> ((Int32.ofInt 8) &&& 31)).toInt8.toInt32))))) rfl k
  rw [show ((nI (p + 2)) + (Int32.ofInt 1) : Int32) = nI ((p + 2) + 1) from me_add (k := 1)] at k
  have k := me_put rfl (by decide) k
  have k : nt_rn X _ 84 (40, [(2, .int (Int32.ofInt 8)), (0, .ref T), (1, .int (v))], [], me_w M (nt_u (nt_u (nt_u (nt_u (nt_u (nt_u J Y p (vp_nar .byte ((v >>> ((Int32.ofInt 24) &&& 31)).toInt8.toInt32))) T 1 (nI (p + 1))) Y ((p + 1)) (vp_nar .byte ((v >>> ((Int32.ofInt 16) &&& 31)).toInt8.toInt32))) T 1 (nI ((p + 1) + 1))) Y ((p + 2)) (vp_nar .byte ((v >>> ((Int32.ofInt 8) &&& 31)).toInt8.toInt32))) T 1 (nI ((p + 2) + 1)))) _ := k
  have k := ly_revb 2 (c' := (3, [(2, .int ((Int32.ofInt 8) + Int32.ofInt (-8))), (0, .ref T), (1, .int (v))], [], me_w M (nt_u (nt_u (nt_u (nt_u (nt_u (nt_u J Y p (vp_nar .byte ((v >>> ((Int32.ofInt 24) &&& 31)).toInt8.toInt32))) T 1 (nI (p + 1))) Y ((p + 1)) (vp_nar .byte ((v >>> ((Int32.ofInt 16) &&& 31)).toInt8.toInt32))) T 1 (nI ((p + 1) + 1))) Y ((p + 2)) (vp_nar .byte ((v >>> ((Int32.ofInt 8) &&& 31)).toInt8.toInt32))) T 1 (nI ((p + 2) + 1))))) rfl k
  rw [show ((Int32.ofInt 8) + Int32.ofInt (-8) : Int32) = Int32.ofInt 0 from by decide] at k
  have k := ly_revb 2 (c' := (if (Int32.ofInt 0) < 0 then 46 else 7, [(2, .int (Int32.ofInt 0)), (0, .ref T), (1, .int (v))], [], me_w M (nt_u (nt_u (nt_u (nt_u (nt_u (nt_u J Y p (vp_nar .byte ((v >>> ((Int32.ofInt 24) &&& 31)).toInt8.toInt32))) T 1 (nI (p + 1))) Y ((p + 1)) (vp_nar .byte ((v >>> ((Int32.ofInt 16) &&& 31)).toInt8.toInt32))) T 1 (nI ((p + 1) + 1))) Y ((p + 2)) (vp_nar .byte ((v >>> ((Int32.ofInt 8) &&& 31)).toInt8.toInt32))) T 1 (nI ((p + 2) + 1))))) rfl k
  rw [if_neg (show ¬ ((Int32.ofInt 0) < 0) from by decide)] at k
  have k := ly_revb 1 (c' := (8, [(2, .int (Int32.ofInt 0)), (0, .ref T), (1, .int (v))], [.ref T], me_w M (nt_u (nt_u (nt_u (nt_u (nt_u (nt_u J Y p (vp_nar .byte ((v >>> ((Int32.ofInt 24) &&& 31)).toInt8.toInt32))) T 1 (nI (p + 1))) Y ((p + 1)) (vp_nar .byte ((v >>> ((Int32.ofInt 16) &&& 31)).toInt8.toInt32))) T 1 (nI ((p + 1) + 1))) Y ((p + 2)) (vp_nar .byte ((v >>> ((Int32.ofInt 8) &&& 31)).toInt8.toInt32))) T 1 (nI ((p + 2) + 1))))) rfl k
  have k := lz_get (a := T) (g := 701) (M := me_w M (nt_u (nt_u (nt_u (nt_u (nt_u (nt_u J Y p (vp_nar .byte ((v >>> ((Int32.ofInt 24) &&& 31)).toInt8.toInt32))) T 1 (nI (p + 1))) Y ((p + 1)) (vp_nar .byte ((v >>> ((Int32.ofInt 16) &&& 31)).toInt8.toInt32))) T 1 (nI ((p + 1) + 1))) Y ((p + 2)) (vp_nar .byte ((v >>> ((Int32.ofInt 8) &&& 31)).toInt8.toInt32))) T 1 (nI ((p + 2) + 1)))) (v := .int (nI (p + 3))) rfl (congrArg Value.int (me_us)) k
  have k := ly_revb 2 (c' := (if (Int32.ofInt 400) ≤ (nI (p + 3)) then 46 else 17, [(2, .int (Int32.ofInt 0)), (0, .ref T), (1, .int (v))], [], me_w M (nt_u (nt_u (nt_u (nt_u (nt_u (nt_u J Y p (vp_nar .byte ((v >>> ((Int32.ofInt 24) &&& 31)).toInt8.toInt32))) T 1 (nI (p + 1))) Y ((p + 1)) (vp_nar .byte ((v >>> ((Int32.ofInt 16) &&& 31)).toInt8.toInt32))) T 1 (nI ((p + 1) + 1))) Y ((p + 2)) (vp_nar .byte ((v >>> ((Int32.ofInt 8) &&& 31)).toInt8.toInt32))) T 1 (nI ((p + 2) + 1))))) rfl k
  rw [if_neg (show ¬ ((Int32.ofInt 400) ≤ (nI (p + 3))) from show ¬ nI 400 ≤ nI ((p + 3)) from nI_ge (Nat.not_le.mp (by omega)) (by omega))] at k
  have k := ly_revb 1 (c' := (18, [(2, .int (Int32.ofInt 0)), (0, .ref T), (1, .int (v))], [.ref T], me_w M (nt_u (nt_u (nt_u (nt_u (nt_u (nt_u J Y p (vp_nar .byte ((v >>> ((Int32.ofInt 24) &&& 31)).toInt8.toInt32))) T 1 (nI (p + 1))) Y ((p + 1)) (vp_nar .byte ((v >>> ((Int32.ofInt 16) &&& 31)).toInt8.toInt32))) T 1 (nI ((p + 1) + 1))) Y ((p + 2)) (vp_nar .byte ((v >>> ((Int32.ofInt 8) &&& 31)).toInt8.toInt32))) T 1 (nI ((p + 2) + 1))))) rfl k
  have k := lz_get (a := T) (g := 700) (M := me_w M (nt_u (nt_u (nt_u (nt_u (nt_u (nt_u J Y p (vp_nar .byte ((v >>> ((Int32.ofInt 24) &&& 31)).toInt8.toInt32))) T 1 (nI (p + 1))) Y ((p + 1)) (vp_nar .byte ((v >>> ((Int32.ofInt 16) &&& 31)).toInt8.toInt32))) T 1 (nI ((p + 1) + 1))) Y ((p + 2)) (vp_nar .byte ((v >>> ((Int32.ofInt 8) &&& 31)).toInt8.toInt32))) T 1 (nI ((p + 2) + 1)))) (v := .ref Y) rfl (nt_gfR rfl hr) k
  have k := ly_revb 1 (c' := (22, [(2, .int (Int32.ofInt 0)), (0, .ref T), (1, .int (v))], [.ref T, .ref Y], me_w M (nt_u (nt_u (nt_u (nt_u (nt_u (nt_u J Y p (vp_nar .byte ((v >>> ((Int32.ofInt 24) &&& 31)).toInt8.toInt32))) T 1 (nI (p + 1))) Y ((p + 1)) (vp_nar .byte ((v >>> ((Int32.ofInt 16) &&& 31)).toInt8.toInt32))) T 1 (nI ((p + 1) + 1))) Y ((p + 2)) (vp_nar .byte ((v >>> ((Int32.ofInt 8) &&& 31)).toInt8.toInt32))) T 1 (nI ((p + 2) + 1))))) rfl k
  have k := lz_get (a := T) (g := 701) (M := me_w M (nt_u (nt_u (nt_u (nt_u (nt_u (nt_u J Y p (vp_nar .byte ((v >>> ((Int32.ofInt 24) &&& 31)).toInt8.toInt32))) T 1 (nI (p + 1))) Y ((p + 1)) (vp_nar .byte ((v >>> ((Int32.ofInt 16) &&& 31)).toInt8.toInt32))) T 1 (nI ((p + 1) + 1))) Y ((p + 2)) (vp_nar .byte ((v >>> ((Int32.ofInt 8) &&& 31)).toInt8.toInt32))) T 1 (nI ((p + 2) + 1)))) (v := .int (nI (p + 3))) rfl (congrArg Value.int (me_us)) k
  have k := ly_revb 4 (c' := (29, [(2, .int (Int32.ofInt 0)), (0, .ref T), (1, .int (v))], [.int ((v >>> ((Int32.ofInt 0) &&& 31)).toInt8.toInt32), .int (nI (p + 3)), .ref Y], me_w M (nt_u (nt_u (nt_u (nt_u (nt_u (nt_u J Y p (vp_nar .byte ((v >>> ((Int32.ofInt 24) &&& 31)).toInt8.toInt32))) T 1 (nI (p + 1))) Y ((p + 1)) (vp_nar .byte ((v >>> ((Int32.ofInt 16) &&& 31)).toInt8.toInt32))) T 1 (nI ((p + 1) + 1))) Y ((p + 2)) (vp_nar .byte ((v >>> ((Int32.ofInt 8) &&& 31)).toInt8.toInt32))) T 1 (nI ((p + 2) + 1))))) rfl k
  have k := me_bast (q := (p + 3)) rfl (hk) rfl (by omega) k
  have k := ly_revb 2 (c' := (32, [(2, .int (Int32.ofInt 0)), (0, .ref T), (1, .int (v))], [.ref T, .ref T], me_w M (nt_u (nt_u (nt_u (nt_u (nt_u (nt_u (nt_u J Y p (vp_nar .byte ((v >>> ((Int32.ofInt 24) &&& 31)).toInt8.toInt32))) T 1 (nI (p + 1))) Y ((p + 1)) (vp_nar .byte ((v >>> ((Int32.ofInt 16) &&& 31)).toInt8.toInt32))) T 1 (nI ((p + 1) + 1))) Y ((p + 2)) (vp_nar .byte ((v >>> ((Int32.ofInt 8) &&& 31)).toInt8.toInt32))) T 1 (nI ((p + 2) + 1))) Y ((p + 3)) (vp_nar .byte ((v >>> ((Int32.ofInt 0) &&& 31)).toInt8.toInt32))))) rfl k
  have k := lz_get (a := T) (g := 701) (M := me_w M (nt_u (nt_u (nt_u (nt_u (nt_u (nt_u (nt_u J Y p (vp_nar .byte ((v >>> ((Int32.ofInt 24) &&& 31)).toInt8.toInt32))) T 1 (nI (p + 1))) Y ((p + 1)) (vp_nar .byte ((v >>> ((Int32.ofInt 16) &&& 31)).toInt8.toInt32))) T 1 (nI ((p + 1) + 1))) Y ((p + 2)) (vp_nar .byte ((v >>> ((Int32.ofInt 8) &&& 31)).toInt8.toInt32))) T 1 (nI ((p + 2) + 1))) Y ((p + 3)) (vp_nar .byte ((v >>> ((Int32.ofInt 0) &&& 31)).toInt8.toInt32)))) (v := .int (nI (p + 3))) rfl (congrArg Value.int ((me_uj (Ne.symm hYT)).trans (me_us))) k
  have k := ly_revb 2 (c' := (37, [(2, .int (Int32.ofInt 0)), (0, .ref T), (1, .int (v))], [.int ((nI (p + 3)) + (Int32.ofInt 1)), .ref T], me_w M (nt_u (nt_u (nt_u (nt_u (nt_u (nt_u (nt_u J Y p (vp_nar .byte ((v >>> ((Int32.ofInt 24) &&& 31)).toInt8.toInt32))) T 1 (nI (p + 1))) Y ((p + 1)) (vp_nar .byte ((v >>> ((Int32.ofInt 16) &&& 31)).toInt8.toInt32))) T 1 (nI ((p + 1) + 1))) Y ((p + 2)) (vp_nar .byte ((v >>> ((Int32.ofInt 8) &&& 31)).toInt8.toInt32))) T 1 (nI ((p + 2) + 1))) Y ((p + 3)) (vp_nar .byte ((v >>> ((Int32.ofInt 0) &&& 31)).toInt8.toInt32))))) rfl k
  rw [show ((nI (p + 3)) + (Int32.ofInt 1) : Int32) = nI ((p + 3) + 1) from me_add (k := 1)] at k
  have k := me_put rfl (by decide) k
  have k : nt_rn X _ 84 (40, [(2, .int (Int32.ofInt 0)), (0, .ref T), (1, .int (v))], [], me_w M (nt_u (nt_u (nt_u (nt_u (nt_u (nt_u (nt_u (nt_u J Y p (vp_nar .byte ((v >>> ((Int32.ofInt 24) &&& 31)).toInt8.toInt32))) T 1 (nI (p + 1))) Y ((p + 1)) (vp_nar .byte ((v >>> ((Int32.ofInt 16) &&& 31)).toInt8.toInt32))) T 1 (nI ((p + 1) + 1))) Y ((p + 2)) (vp_nar .byte ((v >>> ((Int32.ofInt 8) &&& 31)).toInt8.toInt32))) T 1 (nI ((p + 2) + 1))) Y ((p + 3)) (vp_nar .byte ((v >>> ((Int32.ofInt 0) &&& 31)).toInt8.toInt32))) T 1 (nI ((p + 3) + 1)))) _ := k
  have k := ly_revb 2 (c' := (3, [(2, .int ((Int32.ofInt 0) + Int32.ofInt (-8))), (0, .ref T), (1, .int (v))], [], me_w M (nt_u (nt_u (nt_u (nt_u (nt_u (nt_u (nt_u (nt_u J Y p (vp_nar .byte ((v >>> ((Int32.ofInt 24) &&& 31)).toInt8.toInt32))) T 1 (nI (p + 1))) Y ((p + 1)) (vp_nar .byte ((v >>> ((Int32.ofInt 16) &&& 31)).toInt8.toInt32))) T 1 (nI ((p + 1) + 1))) Y ((p + 2)) (vp_nar .byte ((v >>> ((Int32.ofInt 8) &&& 31)).toInt8.toInt32))) T 1 (nI ((p + 2) + 1))) Y ((p + 3)) (vp_nar .byte ((v >>> ((Int32.ofInt 0) &&& 31)).toInt8.toInt32))) T 1 (nI ((p + 3) + 1))))) rfl k
  rw [show ((Int32.ofInt 0) + Int32.ofInt (-8) : Int32) = Int32.ofInt (-8) from by decide] at k
  have k := ly_revb 2 (c' := (if (Int32.ofInt (-8)) < 0 then 46 else 7, [(2, .int (Int32.ofInt (-8))), (0, .ref T), (1, .int (v))], [], me_w M (nt_u (nt_u (nt_u (nt_u (nt_u (nt_u (nt_u (nt_u J Y p (vp_nar .byte ((v >>> ((Int32.ofInt 24) &&& 31)).toInt8.toInt32))) T 1 (nI (p + 1))) Y ((p + 1)) (vp_nar .byte ((v >>> ((Int32.ofInt 16) &&& 31)).toInt8.toInt32))) T 1 (nI ((p + 1) + 1))) Y ((p + 2)) (vp_nar .byte ((v >>> ((Int32.ofInt 8) &&& 31)).toInt8.toInt32))) T 1 (nI ((p + 2) + 1))) Y ((p + 3)) (vp_nar .byte ((v >>> ((Int32.ofInt 0) &&& 31)).toInt8.toInt32))) T 1 (nI ((p + 3) + 1))))) rfl k
  rw [if_pos (show (Int32.ofInt (-8)) < 0 from by decide)] at k
  have k := lz_rv rfl rfl k
  refine ⟨_, k, me_us, ?_, fun i hi => ?_, fun a h1 h2 => ?_⟩
  · funext j
    rw [me_uj hYT, me_ur, me_uj hYT, me_ur, me_uj hYT, me_ur, me_uj hYT, me_ur]
    rfl
  · rw [me_uk hi, me_uj (Ne.symm hYT), me_uk hi, me_uj (Ne.symm hYT), me_uk hi, me_uj (Ne.symm hYT), me_uk hi, me_uj (Ne.symm hYT)]
  · rw [me_uo h1, me_uo h2, me_uo h1, me_uo h2, me_uo h1, me_uo h2, me_uo h1, me_uo h2]
theorem lq_four {X : nt_X} {d B Y p : Nat} {M : nt_M} {J : Nat → Nat → Int32} {o : Option Value × nt_M} {v : Int32} (hr : nt_R M B 0 = some Y) (hYT : Y ≠ B) (hk : nt_k M Y = 12) (hl : J B 1 = nI p) (hp : p + 4 ≤ 400) (k : nt_ev X d 131 [.ref B, .int v] (me_w M J) o) : ∃ J', o = (none, me_w M J') ∧ J' B 1 = nI (p + 4) ∧ J' Y = lq_w (J Y) p v ∧ (∀ i, i ≠ 1 → J' B i = J B i) ∧ (∀ a, a ≠ B → a ≠ Y → J' a = J a) := by
  have k : nt_rn X d 131 (0, [(0, .ref B), (1, .int v)], [], me_w M J) o := k
  have k := ly_revb 4 (c' := (if (Int32.ofInt 24) < 0 then 36 else 7, [(2, .int (Int32.ofInt 24)), (0, .ref B), (1, .int (v))], [], me_w M J)) rfl k
  rw [if_neg (show ¬ ((Int32.ofInt 24) < 0) from by decide)] at k
  have k := ly_revb 1 (c' := (8, [(2, .int (Int32.ofInt 24)), (0, .ref B), (1, .int (v))], [.ref B], me_w M J)) rfl k
  have k := lz_get (a := B) (g := 1100) (M := me_w M J) (v := .ref Y) rfl (nt_gfR rfl hr) k
  have k := ly_revb 1 (c' := (12, [(2, .int (Int32.ofInt 24)), (0, .ref B), (1, .int (v))], [.ref B, .ref Y], me_w M J)) rfl k
  have k := lz_get (a := B) (g := 1101) (M := me_w M J) (v := .int (nI p)) rfl (congrArg Value.int (hl)) k
  have k := ly_revb 4 (c' := (19, [(2, .int (Int32.ofInt 24)), (0, .ref B), (1, .int (v))], [.int ((v >>> ((Int32.ofInt 24) &&& 31)).toInt8.toInt32), .int (nI p), .ref Y], me_w M J)) rfl k
  have k := me_bast (q := p) rfl (hk) rfl (by omega) k
  have k := ly_revb 2 (c' := (22, [(2, .int (Int32.ofInt 24)), (0, .ref B), (1, .int (v))], [.ref B, .ref B], me_w M (nt_u J Y p (vp_nar .byte ((v >>> ((Int32.ofInt 24) &&& 31)).toInt8.toInt32))))) rfl k
  have k := lz_get (a := B) (g := 1101) (M := me_w M (nt_u J Y p (vp_nar .byte ((v >>> ((Int32.ofInt 24) &&& 31)).toInt8.toInt32)))) (v := .int (nI p)) rfl (congrArg Value.int ((me_uj (Ne.symm hYT)).trans (hl))) k
  have k := ly_revb 2 (c' := (27, [(2, .int (Int32.ofInt 24)), (0, .ref B), (1, .int (v))], [.int ((nI p) + (Int32.ofInt 1)), .ref B], me_w M (nt_u J Y p (vp_nar .byte ((v >>> ((Int32.ofInt 24) &&& 31)).toInt8.toInt32))))) rfl k
  rw [show ((nI p) + (Int32.ofInt 1) : Int32) = nI (p + 1) from me_add (k := 1)] at k
  have k := me_put rfl (by decide) k
  have k : nt_rn X _ 131 (30, [(2, .int (Int32.ofInt 24)), (0, .ref B), (1, .int (v))], [], me_w M (nt_u (nt_u J Y p (vp_nar .byte ((v >>> ((Int32.ofInt 24) &&& 31)).toInt8.toInt32))) B 1 (nI (p + 1)))) _ := k
  have k := ly_revb 2 (c' := (3, [(2, .int ((Int32.ofInt 24) + Int32.ofInt (-8))), (0, .ref B), (1, .int (v))], [], me_w M (nt_u (nt_u J Y p (vp_nar .byte ((v >>> ((Int32.ofInt 24) &&& 31)).toInt8.toInt32))) B 1 (nI (p + 1))))) rfl k
  rw [show ((Int32.ofInt 24) + Int32.ofInt (-8) : Int32) = Int32.ofInt 16 from by decide] at k
  have k := ly_revb 2 (c' := (if (Int32.ofInt 16) < 0 then 36 else 7, [(2, .int (Int32.ofInt 16)), (0, .ref B), (1, .int (v))], [], me_w M (nt_u (nt_u J Y p (vp_nar .byte ((v >>> ((Int32.ofInt 24) &&& 31)).toInt8.toInt32))) B 1 (nI (p + 1))))) rfl k
  rw [if_neg (show ¬ ((Int32.ofInt 16) < 0) from by decide)] at k
  have k := ly_revb 1 (c' := (8, [(2, .int (Int32.ofInt 16)), (0, .ref B), (1, .int (v))], [.ref B], me_w M (nt_u (nt_u J Y p (vp_nar .byte ((v >>> ((Int32.ofInt 24) &&& 31)).toInt8.toInt32))) B 1 (nI (p + 1))))) rfl k
  have k := lz_get (a := B) (g := 1100) (M := me_w M (nt_u (nt_u J Y p (vp_nar .byte ((v >>> ((Int32.ofInt 24) &&& 31)).toInt8.toInt32))) B 1 (nI (p + 1)))) (v := .ref Y) rfl (nt_gfR rfl hr) k
  have k := ly_revb 1 (c' := (12, [(2, .int (Int32.ofInt 16)), (0, .ref B), (1, .int (v))], [.ref B, .ref Y], me_w M (nt_u (nt_u J Y p (vp_nar .byte ((v >>> ((Int32.ofInt 24) &&& 31)).toInt8.toInt32))) B 1 (nI (p + 1))))) rfl k
  have k := lz_get (a := B) (g := 1101) (M := me_w M (nt_u (nt_u J Y p (vp_nar .byte ((v >>> ((Int32.ofInt 24) &&& 31)).toInt8.toInt32))) B 1 (nI (p + 1)))) (v := .int (nI (p + 1))) rfl (congrArg Value.int (me_us)) k
  have k := ly_revb 4 (c' := (19, [(2, .int (Int32.ofInt 16)), (0, .ref B), (1, .int (v))], [.int ((v >>> ((Int32.ofInt 16) &&& 31)).toInt8.toInt32), .int (nI (p + 1)), .ref Y], me_w M (nt_u (nt_u J Y p (vp_nar .byte ((v >>> ((Int32.ofInt 24) &&& 31)).toInt8.toInt32))) B 1 (nI (p + 1))))) rfl k
  have k := me_bast (q := (p + 1)) rfl (hk) rfl (by omega) k
  have k := ly_revb 2 (c' := (22, [(2, .int (Int32.ofInt 16)), (0, .ref B), (1, .int (v))], [.ref B, .ref B], me_w M (nt_u (nt_u (nt_u J Y p (vp_nar .byte ((v >>> ((Int32.ofInt 24) &&& 31)).toInt8.toInt32))) B 1 (nI (p + 1))) Y ((p + 1)) (vp_nar .byte ((v >>> ((Int32.ofInt 16) &&& 31)).toInt8.toInt32))))) rfl k
  have k := lz_get (a := B) (g := 1101) (M := me_w M (nt_u (nt_u (nt_u J Y p (vp_nar .byte ((v >>> ((Int32.ofInt 24) &&& 31)).toInt8.toInt32))) B 1 (nI (p + 1))) Y ((p + 1)) (vp_nar .byte ((v >>> ((Int32.ofInt 16) &&& 31)).toInt8.toInt32)))) (v := .int (nI (p + 1))) rfl (congrArg Value.int ((me_uj (Ne.symm hYT)).trans (me_us))) k
  have k := ly_revb 2 (c' := (27, [(2, .int (Int32.ofInt 16)), (0, .ref B), (1, .int (v))], [.int ((nI (p + 1)) + (Int32.ofInt 1)), .ref B], me_w M (nt_u (nt_u (nt_u J Y p (vp_nar .byte ((v >>> ((Int32.ofInt 24) &&& 31)).toInt8.toInt32))) B 1 (nI (p + 1))) Y ((p + 1)) (vp_nar .byte ((v >>> ((Int32.ofInt 16) &&& 31)).toInt8.toInt32))))) rfl k
  rw [show ((nI (p + 1)) + (Int32.ofInt 1) : Int32) = nI ((p + 1) + 1) from me_add (k := 1)] at k
  have k := me_put rfl (by decide) k
  have k : nt_rn X _ 131 (30, [(2, .int (Int32.ofInt 16)), (0, .ref B), (1, .int (v))], [], me_w M (nt_u (nt_u (nt_u (nt_u J Y p (vp_nar .byte ((v >>> ((Int32.ofInt 24) &&& 31)).toInt8.toInt32))) B 1 (nI (p + 1))) Y ((p + 1)) (vp_nar .byte ((v >>> ((Int32.ofInt 16) &&& 31)).toInt8.toInt32))) B 1 (nI ((p + 1) + 1)))) _ := k
  have k := ly_revb 2 (c' := (3, [(2, .int ((Int32.ofInt 16) + Int32.ofInt (-8))), (0, .ref B), (1, .int (v))], [], me_w M (nt_u (nt_u (nt_u (nt_u J Y p (vp_nar .byte ((v >>> ((Int32.ofInt 24) &&& 31)).toInt8.toInt32))) B 1 (nI (p + 1))) Y ((p + 1)) (vp_nar .byte ((v >>> ((Int32.ofInt 16) &&& 31)).toInt8.toInt32))) B 1 (nI ((p + 1) + 1))))) rfl k
  rw [show ((Int32.ofInt 16) + Int32.ofInt (-8) : Int32) = Int32.ofInt 8 from by decide] at k
  have k := ly_revb 2 (c' := (if (Int32.ofInt 8) < 0 then 36 else 7, [(2, .int (Int32.ofInt 8)), (0, .ref B), (1, .int (v))], [], me_w M (nt_u (nt_u (nt_u (nt_u J Y p (vp_nar .byte ((v >>> ((Int32.ofInt 24) &&& 31)).toInt8.toInt32))) B 1 (nI (p + 1))) Y ((p + 1)) (vp_nar .byte ((v >>> ((Int32.ofInt 16) &&& 31)).toInt8.toInt32))) B 1 (nI ((p + 1) + 1))))) rfl k
  rw [if_neg (show ¬ ((Int32.ofInt 8) < 0) from by decide)] at k
  have k := ly_revb 1 (c' := (8, [(2, .int (Int32.ofInt 8)), (0, .ref B), (1, .int (v))], [.ref B], me_w M (nt_u (nt_u (nt_u (nt_u J Y p (vp_nar .byte ((v >>> ((Int32.ofInt 24) &&& 31)).toInt8.toInt32))) B 1 (nI (p + 1))) Y ((p + 1)) (vp_nar .byte ((v >>> ((Int32.ofInt 16) &&& 31)).toInt8.toInt32))) B 1 (nI ((p + 1) + 1))))) rfl k
  have k := lz_get (a := B) (g := 1100) (M := me_w M (nt_u (nt_u (nt_u (nt_u J Y p (vp_nar .byte ((v >>> ((Int32.ofInt 24) &&& 31)).toInt8.toInt32))) B 1 (nI (p + 1))) Y ((p + 1)) (vp_nar .byte ((v >>> ((Int32.ofInt 16) &&& 31)).toInt8.toInt32))) B 1 (nI ((p + 1) + 1)))) (v := .ref Y) rfl (nt_gfR rfl hr) k
  have k := ly_revb 1 (c' := (12, [(2, .int (Int32.ofInt 8)), (0, .ref B), (1, .int (v))], [.ref B, .ref Y], me_w M (nt_u (nt_u (nt_u (nt_u J Y p (vp_nar .byte ((v >>> ((Int32.ofInt 24) &&& 31)).toInt8.toInt32))) B 1 (nI (p + 1))) Y ((p + 1)) (vp_nar .byte ((v >>> ((Int32.ofInt 16) &&& 31)).toInt8.toInt32))) B 1 (nI ((p + 1) + 1))))) rfl k
  have k := lz_get (a := B) (g := 1101) (M := me_w M (nt_u (nt_u (nt_u (nt_u J Y p (vp_nar .byte ((v >>> ((Int32.ofInt 24) &&& 31)).toInt8.toInt32))) B 1 (nI (p + 1))) Y ((p + 1)) (vp_nar .byte ((v >>> ((Int32.ofInt 16) &&& 31)).toInt8.toInt32))) B 1 (nI ((p + 1) + 1)))) (v := .int (nI (p + 2))) rfl (congrArg Value.int (me_us)) k
  have k := ly_revb 4 (c' := (19, [(2, .int (Int32.ofInt 8)), (0, .ref B), (1, .int (v))], [.int ((v >>> ((Int32.ofInt 8) &&& 31)).toInt8.toInt32), .int (nI (p + 2)), .ref Y], me_w M (nt_u (nt_u (nt_u (nt_u J Y p (vp_nar .byte ((v >>> ((Int32.ofInt 24) &&& 31)).toInt8.toInt32))) B 1 (nI (p + 1))) Y ((p + 1)) (vp_nar .byte ((v >>> ((Int32.ofInt 16) &&& 31)).toInt8.toInt32))) B 1 (nI ((p + 1) + 1))))) rfl k
  have k := me_bast (q := (p + 2)) rfl (hk) rfl (by omega) k
  have k := ly_revb 2 (c' := (22, [(2, .int (Int32.ofInt 8)), (0, .ref B), (1, .int (v))], [.ref B, .ref B], me_w M (nt_u (nt_u (nt_u (nt_u (nt_u J Y p (vp_nar .byte ((v >>> ((Int32.ofInt 24) &&& 31)).toInt8.toInt32))) B 1 (nI (p + 1))) Y ((p + 1)) (vp_nar .byte ((v >>> ((Int32.ofInt 16) &&& 31)).toInt8.toInt32))) B 1 (nI ((p + 1) + 1))) Y ((p + 2)) (vp_nar .byte ((v >>> ((Int32.ofInt 8) &&& 31)).toInt8.toInt32))))) rfl k
  have k := lz_get (a := B) (g := 1101) (M := me_w M (nt_u (nt_u (nt_u (nt_u (nt_u J Y p (vp_nar .byte ((v >>> ((Int32.ofInt 24) &&& 31)).toInt8.toInt32))) B 1 (nI (p + 1))) Y ((p + 1)) (vp_nar .byte ((v >>> ((Int32.ofInt 16) &&& 31)).toInt8.toInt32))) B 1 (nI ((p + 1) + 1))) Y ((p + 2)) (vp_nar .byte ((v >>> ((Int32.ofInt 8) &&& 31)).toInt8.toInt32)))) (v := .int (nI (p + 2))) rfl (congrArg Value.int ((me_uj (Ne.symm hYT)).trans (me_us))) k
  have k := ly_revb 2 (c' := (27, [(2, .int (Int32.ofInt 8)), (0, .ref B), (1, .int (v))], [.int ((nI (p + 2)) + (Int32.ofInt 1)), .ref B], me_w M (nt_u (nt_u (nt_u (nt_u (nt_u J Y p (vp_nar .byte ((v >>> ((Int32.ofInt 24) &&& 31)).toInt8.toInt32))) B 1 (nI (p + 1))) Y ((p + 1)) (vp_nar .byte ((v >>> ((Int32.ofInt 16) &&& 31)).toInt8.toInt32))) B 1 (nI ((p + 1) + 1))) Y ((p + 2)) (vp_nar .byte ((v >>> ((Int32.ofInt 8) &&& 31)).toInt8.toInt32))))) rfl k
  rw [show ((nI (p + 2)) + (Int32.ofInt 1) : Int32) = nI ((p + 2) + 1) from me_add (k := 1)] at k
  have k := me_put rfl (by decide) k
  have k : nt_rn X _ 131 (30, [(2, .int (Int32.ofInt 8)), (0, .ref B), (1, .int (v))], [], me_w M (nt_u (nt_u (nt_u (nt_u (nt_u (nt_u J Y p (vp_nar .byte ((v >>> ((Int32.ofInt 24) &&& 31)).toInt8.toInt32))) B 1 (nI (p + 1))) Y ((p + 1)) (vp_nar .byte ((v >>> ((Int32.ofInt 16) &&& 31)).toInt8.toInt32))) B 1 (nI ((p + 1) + 1))) Y ((p + 2)) (vp_nar .byte ((v >>> ((Int32.ofInt 8) &&& 31)).toInt8.toInt32))) B 1 (nI ((p + 2) + 1)))) _ := k
  have k := ly_revb 2 (c' := (3, [(2, .int ((Int32.ofInt 8) + Int32.ofInt (-8))), (0, .ref B), (1, .int (v))], [], me_w M (nt_u (nt_u (nt_u (nt_u (nt_u (nt_u J Y p (vp_nar .byte ((v >>> ((Int32.ofInt 24) &&& 31)).toInt8.toInt32))) B 1 (nI (p + 1))) Y ((p + 1)) (vp_nar .byte ((v >>> ((Int32.ofInt 16) &&& 31)).toInt8.toInt32))) B 1 (nI ((p + 1) + 1))) Y ((p + 2)) (vp_nar .byte ((v >>> ((Int32.ofInt 8) &&& 31)).toInt8.toInt32))) B 1 (nI ((p + 2) + 1))))) rfl k
  rw [show ((Int32.ofInt 8) + Int32.ofInt (-8) : Int32) = Int32.ofInt 0 from by decide] at k
  have k := ly_revb 2 (c' := (if (Int32.ofInt 0) < 0 then 36 else 7, [(2, .int (Int32.ofInt 0)), (0, .ref B), (1, .int (v))], [], me_w M (nt_u (nt_u (nt_u (nt_u (nt_u (nt_u J Y p (vp_nar .byte ((v >>> ((Int32.ofInt 24) &&& 31)).toInt8.toInt32))) B 1 (nI (p + 1))) Y ((p + 1)) (vp_nar .byte ((v >>> ((Int32.ofInt 16) &&& 31)).toInt8.toInt32))) B 1 (nI ((p + 1) + 1))) Y ((p + 2)) (vp_nar .byte ((v >>> ((Int32.ofInt 8) &&& 31)).toInt8.toInt32))) B 1 (nI ((p + 2) + 1))))) rfl k
  rw [if_neg (show ¬ ((Int32.ofInt 0) < 0) from by decide)] at k
  have k := ly_revb 1 (c' := (8, [(2, .int (Int32.ofInt 0)), (0, .ref B), (1, .int (v))], [.ref B], me_w M (nt_u (nt_u (nt_u (nt_u (nt_u (nt_u J Y p (vp_nar .byte ((v >>> ((Int32.ofInt 24) &&& 31)).toInt8.toInt32))) B 1 (nI (p + 1))) Y ((p + 1)) (vp_nar .byte ((v >>> ((Int32.ofInt 16) &&& 31)).toInt8.toInt32))) B 1 (nI ((p + 1) + 1))) Y ((p + 2)) (vp_nar .byte ((v >>> ((Int32.ofInt 8) &&& 31)).toInt8.toInt32))) B 1 (nI ((p + 2) + 1))))) rfl k
  have k := lz_get (a := B) (g := 1100) (M := me_w M (nt_u (nt_u (nt_u (nt_u (nt_u (nt_u J Y p (vp_nar .byte ((v >>> ((Int32.ofInt 24) &&& 31)).toInt8.toInt32))) B 1 (nI (p + 1))) Y ((p + 1)) (vp_nar .byte ((v >>> ((Int32.ofInt 16) &&& 31)).toInt8.toInt32))) B 1 (nI ((p + 1) + 1))) Y ((p + 2)) (vp_nar .byte ((v >>> ((Int32.ofInt 8) &&& 31)).toInt8.toInt32))) B 1 (nI ((p + 2) + 1)))) (v := .ref Y) rfl (nt_gfR rfl hr) k
  have k := ly_revb 1 (c' := (12, [(2, .int (Int32.ofInt 0)), (0, .ref B), (1, .int (v))], [.ref B, .ref Y], me_w M (nt_u (nt_u (nt_u (nt_u (nt_u (nt_u J Y p (vp_nar .byte ((v >>> ((Int32.ofInt 24) &&& 31)).toInt8.toInt32))) B 1 (nI (p + 1))) Y ((p + 1)) (vp_nar .byte ((v >>> ((Int32.ofInt 16) &&& 31)).toInt8.toInt32))) B 1 (nI ((p + 1) + 1))) Y ((p + 2)) (vp_nar .byte ((v >>> ((Int32.ofInt 8) &&& 31)).toInt8.toInt32))) B 1 (nI ((p + 2) + 1))))) rfl k
  have k := lz_get (a := B) (g := 1101) (M := me_w M (nt_u (nt_u (nt_u (nt_u (nt_u (nt_u J Y p (vp_nar .byte ((v >>> ((Int32.ofInt 24) &&& 31)).toInt8.toInt32))) B 1 (nI (p + 1))) Y ((p + 1)) (vp_nar .byte ((v >>> ((Int32.ofInt 16) &&& 31)).toInt8.toInt32))) B 1 (nI ((p + 1) + 1))) Y ((p + 2)) (vp_nar .byte ((v >>> ((Int32.ofInt 8) &&& 31)).toInt8.toInt32))) B 1 (nI ((p + 2) + 1)))) (v := .int (nI (p + 3))) rfl (congrArg Value.int (me_us)) k
  have k := ly_revb 4 (c' := (19, [(2, .int (Int32.ofInt 0)), (0, .ref B), (1, .int (v))], [.int ((v >>> ((Int32.ofInt 0) &&& 31)).toInt8.toInt32), .int (nI (p + 3)), .ref Y], me_w M (nt_u (nt_u (nt_u (nt_u (nt_u (nt_u J Y p (vp_nar .byte ((v >>> ((Int32.ofInt 24) &&& 31)).toInt8.toInt32))) B 1 (nI (p + 1))) Y ((p + 1)) (vp_nar .byte ((v >>> ((Int32.ofInt 16) &&& 31)).toInt8.toInt32))) B 1 (nI ((p + 1) + 1))) Y ((p + 2)) (vp_nar .byte ((v >>> ((Int32.ofInt 8) &&& 31)).toInt8.toInt32))) B 1 (nI ((p + 2) + 1))))) rfl k
  have k := me_bast (q := (p + 3)) rfl (hk) rfl (by omega) k
  have k := ly_revb 2 (c' := (22, [(2, .int (Int32.ofInt 0)), (0, .ref B), (1, .int (v))], [.ref B, .ref B], me_w M (nt_u (nt_u (nt_u (nt_u (nt_u (nt_u (nt_u J Y p (vp_nar .byte ((v >>> ((Int32.ofInt 24) &&& 31)).toInt8.toInt32))) B 1 (nI (p + 1))) Y ((p + 1)) (vp_nar .byte ((v >>> ((Int32.ofInt 16) &&& 31)).toInt8.toInt32))) B 1 (nI ((p + 1) + 1))) Y ((p + 2)) (vp_nar .byte ((v >>> ((Int32.ofInt 8) &&& 31)).toInt8.toInt32))) B 1 (nI ((p + 2) + 1))) Y ((p + 3)) (vp_nar .byte ((v >>> ((Int32.ofInt 0) &&& 31)).toInt8.toInt32))))) rfl k
  have k := lz_get (a := B) (g := 1101) (M := me_w M (nt_u (nt_u (nt_u (nt_u (nt_u (nt_u (nt_u J Y p (vp_nar .byte ((v >>> ((Int32.ofInt 24) &&& 31)).toInt8.toInt32))) B 1 (nI (p + 1))) Y ((p + 1)) (vp_nar .byte ((v >>> ((Int32.ofInt 16) &&& 31)).toInt8.toInt32))) B 1 (nI ((p + 1) + 1))) Y ((p + 2)) (vp_nar .byte ((v >>> ((Int32.ofInt 8) &&& 31)).toInt8.toInt32))) B 1 (nI ((p + 2) + 1))) Y ((p + 3)) (vp_nar .byte ((v >>> ((Int32.ofInt 0) &&& 31)).toInt8.toInt32)))) (v := .int (nI (p + 3))) rfl (congrArg Value.int ((me_uj (Ne.symm hYT)).trans (me_us))) k
  have k := ly_revb 2 (c' := (27, [(2, .int (Int32.ofInt 0)), (0, .ref B), (1, .int (v))], [.int ((nI (p + 3)) + (Int32.ofInt 1)), .ref B], me_w M (nt_u (nt_u (nt_u (nt_u (nt_u (nt_u (nt_u J Y p (vp_nar .byte ((v >>> ((Int32.ofInt 24) &&& 31)).toInt8.toInt32))) B 1 (nI (p + 1))) Y ((p + 1)) (vp_nar .byte ((v >>> ((Int32.ofInt 16) &&& 31)).toInt8.toInt32))) B 1 (nI ((p + 1) + 1))) Y ((p + 2)) (vp_nar .byte ((v >>> ((Int32.ofInt 8) &&& 31)).toInt8.toInt32))) B 1 (nI ((p + 2) + 1))) Y ((p + 3)) (vp_nar .byte ((v >>> ((Int32.ofInt 0) &&& 31)).toInt8.toInt32))))) rfl k
  rw [show ((nI (p + 3)) + (Int32.ofInt 1) : Int32) = nI ((p + 3) + 1) from me_add (k := 1)] at k
  have k := me_put rfl (by decide) k
  have k : nt_rn X _ 131 (30, [(2, .int (Int32.ofInt 0)), (0, .ref B), (1, .int (v))], [], me_w M (nt_u (nt_u (nt_u (nt_u (nt_u (nt_u (nt_u (nt_u J Y p (vp_nar .byte ((v >>> ((Int32.ofInt 24) &&& 31)).toInt8.toInt32))) B 1 (nI (p + 1))) Y ((p + 1)) (vp_nar .byte ((v >>> ((Int32.ofInt 16) &&& 31)).toInt8.toInt32))) B 1 (nI ((p + 1) + 1))) Y ((p + 2)) (vp_nar .byte ((v >>> ((Int32.ofInt 8) &&& 31)).toInt8.toInt32))) B 1 (nI ((p + 2) + 1))) Y ((p + 3)) (vp_nar .byte ((v >>> ((Int32.ofInt 0) &&& 31)).toInt8.toInt32))) B 1 (nI ((p + 3) + 1)))) _ := k
  have k := ly_revb 2 (c' := (3, [(2, .int ((Int32.ofInt 0) + Int32.ofInt (-8))), (0, .ref B), (1, .int (v))], [], me_w M (nt_u (nt_u (nt_u (nt_u (nt_u (nt_u (nt_u (nt_u J Y p (vp_nar .byte ((v >>> ((Int32.ofInt 24) &&& 31)).toInt8.toInt32))) B 1 (nI (p + 1))) Y ((p + 1)) (vp_nar .byte ((v >>> ((Int32.ofInt 16) &&& 31)).toInt8.toInt32))) B 1 (nI ((p + 1) + 1))) Y ((p + 2)) (vp_nar .byte ((v >>> ((Int32.ofInt 8) &&& 31)).toInt8.toInt32))) B 1 (nI ((p + 2) + 1))) Y ((p + 3)) (vp_nar .byte ((v >>> ((Int32.ofInt 0) &&& 31)).toInt8.toInt32))) B 1 (nI ((p + 3) + 1))))) rfl k
  rw [show ((Int32.ofInt 0) + Int32.ofInt (-8) : Int32) = Int32.ofInt (-8) from by decide] at k
  have k := ly_revb 2 (c' := (if (Int32.ofInt (-8)) < 0 then 36 else 7, [(2, .int (Int32.ofInt (-8))), (0, .ref B), (1, .int (v))], [], me_w M (nt_u (nt_u (nt_u (nt_u (nt_u (nt_u (nt_u (nt_u J Y p (vp_nar .byte ((v >>> ((Int32.ofInt 24) &&& 31)).toInt8.toInt32))) B 1 (nI (p + 1))) Y ((p + 1)) (vp_nar .byte ((v >>> ((Int32.ofInt 16) &&& 31)).toInt8.toInt32))) B 1 (nI ((p + 1) + 1))) Y ((p + 2)) (vp_nar .byte ((v >>> ((Int32.ofInt 8) &&& 31)).toInt8.toInt32))) B 1 (nI ((p + 2) + 1))) Y ((p + 3)) (vp_nar .byte ((v >>> ((Int32.ofInt 0) &&& 31)).toInt8.toInt32))) B 1 (nI ((p + 3) + 1))))) rfl k
  rw [if_pos (show (Int32.ofInt (-8)) < 0 from by decide)] at k
  have k := lz_rv rfl rfl k
  refine ⟨_, k, me_us, ?_, fun i hi => ?_, fun a h1 h2 => ?_⟩
  · funext j
    rw [me_uj hYT, me_ur, me_uj hYT, me_ur, me_uj hYT, me_ur, me_uj hYT, me_ur]
    rfl
  · rw [me_uk hi, me_uj (Ne.symm hYT), me_uk hi, me_uj (Ne.symm hYT), me_uk hi, me_uj (Ne.symm hYT), me_uk hi, me_uj (Ne.symm hYT)]
  · rw [me_uo h1, me_uo h2, me_uo h1, me_uo h2, me_uo h1, me_uo h2, me_uo h1, me_uo h2]
theorem lq_feedC {X : nt_X} {d N T Y p : Nat} {M : nt_M} {J : Nat → Nat → Int32} {o : Option Value × nt_M} {a0 a1 a2 a3 a4 : Int32} (hn : nt_R M N 0 = some T) (hr : nt_R M T 0 = some Y) (hYT : Y ≠ T) (hk : nt_k M Y = 12) (hl : J T 1 = nI p) (hp : p ≤ 400) (k : nt_ev X d 102 [.ref N, .int a0, .int a1, .int a2, .int a3, .int a4] (me_w M J) o) : (380 < p ∧ o = (some (.int (Int32.ofInt (-1))), me_w M J)) ∨ (p ≤ 380 ∧ ∃ J', o = (some (.int (nI (p + 20))), me_w M J') ∧ J' T 1 = nI (p + 20) ∧ J' Y = lq_f (J Y) p a0 a1 a2 a3 a4 ∧ (∀ i, i ≠ 1 → J' T i = J T i) ∧ (∀ a, a ≠ T → a ≠ Y → J' a = J a)) := by
  have k : nt_rn X d 102 (0, [(0, .ref N), (1, .int (a0)), (2, .int (a1)), (3, .int (a2)), (4, .int (a3)), (5, .int (a4))], [], me_w M J) o := k
  have k := ly_revb 1 (c' := (1, [(0, .ref N), (1, .int (a0)), (2, .int (a1)), (3, .int (a2)), (4, .int (a3)), (5, .int (a4))], [.ref N], me_w M J)) rfl k
  have k := lz_get (a := N) (g := 1000) (M := me_w M J) (v := .ref T) rfl (nt_gfR rfl hn) k
  have k := lz_get (a := T) (g := 701) (M := me_w M J) (v := .int (nI p)) rfl (congrArg Value.int (hl)) k
  have k := ly_revb 2 (c' := (if (nI p) ≤ (Int32.ofInt 380) then 15 else 13, [(0, .ref N), (1, .int (a0)), (2, .int (a1)), (3, .int (a2)), (4, .int (a3)), (5, .int (a4))], [], me_w M J)) rfl k
  by_cases h10 : p ≤ 380
  · rw [if_pos (show (nI p) ≤ (Int32.ofInt 380) from show nI p ≤ nI 380 from nI_le h10 (by omega))] at k
    have k := ly_revb 1 (c' := (16, [(0, .ref N), (1, .int (a0)), (2, .int (a1)), (3, .int (a2)), (4, .int (a3)), (5, .int (a4))], [.ref N], me_w M J)) rfl k
    have k := lz_get (a := N) (g := 1000) (M := me_w M J) (v := .ref T) rfl (nt_gfR rfl hn) k
    have k := ly_revb 1 (c' := (20, [(0, .ref N), (1, .int (a0)), (2, .int (a1)), (3, .int (a2)), (4, .int (a3)), (5, .int (a4))], [.int (a0), .ref T], me_w M J)) rfl k
    obtain ⟨d1, o1, ed, kc, k⟩ := lz_c (g := 84) (q := 1) (vs := [.ref T, .int (a0)]) (rest := []) rfl rfl (by decide) (Or.inr (Or.inl ⟨_, rfl, rfl⟩)) rfl k
    obtain ⟨J1, e1, l1, y1, f1, g1⟩ := lq_append (p := p + 0) hr hYT hk hl (by omega) kc
    subst e1
    have k : nt_rn X _ 102 (23, [(0, .ref N), (1, .int (a0)), (2, .int (a1)), (3, .int (a2)), (4, .int (a3)), (5, .int (a4))], [], me_w M J1) _ := k
    have k := ly_revb 1 (c' := (24, [(0, .ref N), (1, .int (a0)), (2, .int (a1)), (3, .int (a2)), (4, .int (a3)), (5, .int (a4))], [.ref N], me_w M J1)) rfl k
    have k := lz_get (a := N) (g := 1000) (M := me_w M J1) (v := .ref T) rfl (nt_gfR rfl hn) k
    have k := ly_revb 1 (c' := (28, [(0, .ref N), (1, .int (a0)), (2, .int (a1)), (3, .int (a2)), (4, .int (a3)), (5, .int (a4))], [.int (a1), .ref T], me_w M J1)) rfl k
    obtain ⟨d1, o1, ed, kc, k⟩ := lz_c (g := 84) (q := 1) (vs := [.ref T, .int (a1)]) (rest := []) rfl rfl (by decide) (Or.inr (Or.inl ⟨_, rfl, rfl⟩)) rfl k
    obtain ⟨J2, e1, l2, y2, f2, g2⟩ := lq_append (p := p + 4) hr hYT hk l1 (by omega) kc
    subst e1
    have k : nt_rn X _ 102 (31, [(0, .ref N), (1, .int (a0)), (2, .int (a1)), (3, .int (a2)), (4, .int (a3)), (5, .int (a4))], [], me_w M J2) _ := k
    have k := ly_revb 1 (c' := (32, [(0, .ref N), (1, .int (a0)), (2, .int (a1)), (3, .int (a2)), (4, .int (a3)), (5, .int (a4))], [.ref N], me_w M J2)) rfl k
    have k := lz_get (a := N) (g := 1000) (M := me_w M J2) (v := .ref T) rfl (nt_gfR rfl hn) k
    have k := ly_revb 1 (c' := (36, [(0, .ref N), (1, .int (a0)), (2, .int (a1)), (3, .int (a2)), (4, .int (a3)), (5, .int (a4))], [.int (a2), .ref T], me_w M J2)) rfl k
    obtain ⟨d1, o1, ed, kc, k⟩ := lz_c (g := 84) (q := 1) (vs := [.ref T, .int (a2)]) (rest := []) rfl rfl (by decide) (Or.inr (Or.inl ⟨_, rfl, rfl⟩)) rfl k
    obtain ⟨J3, e1, l3, y3, f3, g3⟩ := lq_append (p := p + 8) hr hYT hk l2 (by omega) kc
    subst e1
    have k : nt_rn X _ 102 (39, [(0, .ref N), (1, .int (a0)), (2, .int (a1)), (3, .int (a2)), (4, .int (a3)), (5, .int (a4))], [], me_w M J3) _ := k
    have k := ly_revb 1 (c' := (40, [(0, .ref N), (1, .int (a0)), (2, .int (a1)), (3, .int (a2)), (4, .int (a3)), (5, .int (a4))], [.ref N], me_w M J3)) rfl k
    have k := lz_get (a := N) (g := 1000) (M := me_w M J3) (v := .ref T) rfl (nt_gfR rfl hn) k
    have k := ly_revb 1 (c' := (45, [(0, .ref N), (1, .int (a0)), (2, .int (a1)), (3, .int (a2)), (4, .int (a3)), (5, .int (a4))], [.int (a3), .ref T], me_w M J3)) rfl k
    obtain ⟨d1, o1, ed, kc, k⟩ := lz_c (g := 84) (q := 1) (vs := [.ref T, .int (a3)]) (rest := []) rfl rfl (by decide) (Or.inr (Or.inl ⟨_, rfl, rfl⟩)) rfl k
    obtain ⟨J4, e1, l4, y4, f4, g4⟩ := lq_append (p := p + 12) hr hYT hk l3 (by omega) kc
    subst e1
    have k : nt_rn X _ 102 (48, [(0, .ref N), (1, .int (a0)), (2, .int (a1)), (3, .int (a2)), (4, .int (a3)), (5, .int (a4))], [], me_w M J4) _ := k
    have k := ly_revb 1 (c' := (49, [(0, .ref N), (1, .int (a0)), (2, .int (a1)), (3, .int (a2)), (4, .int (a3)), (5, .int (a4))], [.ref N], me_w M J4)) rfl k
    have k := lz_get (a := N) (g := 1000) (M := me_w M J4) (v := .ref T) rfl (nt_gfR rfl hn) k
    have k := ly_revb 1 (c' := (54, [(0, .ref N), (1, .int (a0)), (2, .int (a1)), (3, .int (a2)), (4, .int (a3)), (5, .int (a4))], [.int (a4), .ref T], me_w M J4)) rfl k
    obtain ⟨d1, o1, ed, kc, k⟩ := lz_c (g := 84) (q := 1) (vs := [.ref T, .int (a4)]) (rest := []) rfl rfl (by decide) (Or.inr (Or.inl ⟨_, rfl, rfl⟩)) rfl k
    obtain ⟨J5, e1, l5, y5, f5, g5⟩ := lq_append (p := p + 16) hr hYT hk l4 (by omega) kc
    subst e1
    have k : nt_rn X _ 102 (57, [(0, .ref N), (1, .int (a0)), (2, .int (a1)), (3, .int (a2)), (4, .int (a3)), (5, .int (a4))], [], me_w M J5) _ := k
    have k := ly_revb 1 (c' := (58, [(0, .ref N), (1, .int (a0)), (2, .int (a1)), (3, .int (a2)), (4, .int (a3)), (5, .int (a4))], [.ref N], me_w M J5)) rfl k
    have k := lz_get (a := N) (g := 1000) (M := me_w M J5) (v := .ref T) rfl (nt_gfR rfl hn) k
    have k := lz_get (a := T) (g := 701) (M := me_w M J5) (v := .int (nI (p + 16 + 4))) rfl (congrArg Value.int (l5)) k
    have k := lz_ri rfl (by decide) k
    refine Or.inr ⟨by omega, J5, k, l5, ?_, fun i hi => ?_, fun a h1 h2 => ?_⟩
    · rw [y5, y4, y3, y2, y1]
      rfl
    · rw [f5 i hi, f4 i hi, f3 i hi, f2 i hi, f1 i hi]
    · rw [g5 a h1 h2, g4 a h1 h2, g3 a h1 h2, g2 a h1 h2, g1 a h1 h2]
  · rw [if_neg (show ¬ ((nI p) ≤ (Int32.ofInt 380)) from show ¬ nI p ≤ nI 380 from nI_ge (Nat.not_le.mp h10) (by omega))] at k
    have k := ly_revb 1 (c' := (14, [(0, .ref N), (1, .int (a0)), (2, .int (a1)), (3, .int (a2)), (4, .int (a3)), (5, .int (a4))], [.int (Int32.ofInt (-1))], me_w M J)) rfl k
    have k := lz_ri rfl (by decide) k
    exact Or.inl ⟨by omega, k⟩
theorem lq_feedR {X : nt_X} {d B Y p : Nat} {M : nt_M} {J : Nat → Nat → Int32} {o : Option Value × nt_M} {a0 a1 a2 a3 a4 : Int32} (hr : nt_R M B 0 = some Y) (hYT : Y ≠ B) (hk : nt_k M Y = 12) (hl : J B 1 = nI p) (hp : p ≤ 400) (k : nt_ev X d 130 [.ref B, .int a0, .int a1, .int a2, .int a3, .int a4] (me_w M J) o) : (380 < p ∧ o = (some (.int (Int32.ofInt (-1))), me_w M J)) ∨ (p ≤ 380 ∧ ∃ J', o = (some (.int (nI (p + 20))), me_w M J') ∧ J' B 1 = nI (p + 20) ∧ J' Y = lq_f (J Y) p a0 a1 a2 a3 a4 ∧ (∀ i, i ≠ 1 → J' B i = J B i) ∧ (∀ a, a ≠ B → a ≠ Y → J' a = J a)) := by
  have k : nt_rn X d 130 (0, [(0, .ref B), (1, .int (a0)), (2, .int (a1)), (3, .int (a2)), (4, .int (a3)), (5, .int (a4))], [], me_w M J) o := k
  have k := ly_revb 1 (c' := (1, [(0, .ref B), (1, .int (a0)), (2, .int (a1)), (3, .int (a2)), (4, .int (a3)), (5, .int (a4))], [.ref B], me_w M J)) rfl k
  have k := lz_get (a := B) (g := 1101) (M := me_w M J) (v := .int (nI p)) rfl (congrArg Value.int (hl)) k
  have k := ly_revb 2 (c' := (7, [(0, .ref B), (1, .int (a0)), (2, .int (a1)), (3, .int (a2)), (4, .int (a3)), (5, .int (a4))], [.int ((nI p) + (Int32.ofInt 20))], me_w M J)) rfl k
  rw [show ((nI p) + (Int32.ofInt 20) : Int32) = nI (p + 20) from me_add (k := 20)] at k
  have k := ly_revb 2 (c' := (if (nI (p + 20)) ≤ (Int32.ofInt 400) then 15 else 13, [(0, .ref B), (1, .int (a0)), (2, .int (a1)), (3, .int (a2)), (4, .int (a3)), (5, .int (a4))], [], me_w M J)) rfl k
  by_cases h10 : p + 20 ≤ 400
  · rw [if_pos (show (nI (p + 20)) ≤ (Int32.ofInt 400) from show nI (p + 20) ≤ nI 400 from nI_le h10 (by omega))] at k
    have k := ly_revb 2 (c' := (17, [(0, .ref B), (1, .int (a0)), (2, .int (a1)), (3, .int (a2)), (4, .int (a3)), (5, .int (a4))], [.int (a0), .ref B], me_w M J)) rfl k
    obtain ⟨d1, o1, ed, kc, k⟩ := lz_c (g := 131) (q := 1) (vs := [.ref B, .int (a0)]) (rest := []) rfl rfl (by decide) (Or.inr (Or.inl ⟨_, rfl, rfl⟩)) rfl k
    obtain ⟨J1, e1, l1, y1, f1, g1⟩ := lq_four (p := p + 0) hr hYT hk hl (by omega) kc
    subst e1
    have k : nt_rn X _ 130 (20, [(0, .ref B), (1, .int (a0)), (2, .int (a1)), (3, .int (a2)), (4, .int (a3)), (5, .int (a4))], [], me_w M J1) _ := k
    have k := ly_revb 2 (c' := (22, [(0, .ref B), (1, .int (a0)), (2, .int (a1)), (3, .int (a2)), (4, .int (a3)), (5, .int (a4))], [.int (a1), .ref B], me_w M J1)) rfl k
    obtain ⟨d1, o1, ed, kc, k⟩ := lz_c (g := 131) (q := 1) (vs := [.ref B, .int (a1)]) (rest := []) rfl rfl (by decide) (Or.inr (Or.inl ⟨_, rfl, rfl⟩)) rfl k
    obtain ⟨J2, e1, l2, y2, f2, g2⟩ := lq_four (p := p + 4) hr hYT hk l1 (by omega) kc
    subst e1
    have k : nt_rn X _ 130 (25, [(0, .ref B), (1, .int (a0)), (2, .int (a1)), (3, .int (a2)), (4, .int (a3)), (5, .int (a4))], [], me_w M J2) _ := k
    have k := ly_revb 2 (c' := (27, [(0, .ref B), (1, .int (a0)), (2, .int (a1)), (3, .int (a2)), (4, .int (a3)), (5, .int (a4))], [.int (a2), .ref B], me_w M J2)) rfl k
    obtain ⟨d1, o1, ed, kc, k⟩ := lz_c (g := 131) (q := 1) (vs := [.ref B, .int (a2)]) (rest := []) rfl rfl (by decide) (Or.inr (Or.inl ⟨_, rfl, rfl⟩)) rfl k
    obtain ⟨J3, e1, l3, y3, f3, g3⟩ := lq_four (p := p + 8) hr hYT hk l2 (by omega) kc
    subst e1
    have k : nt_rn X _ 130 (30, [(0, .ref B), (1, .int (a0)), (2, .int (a1)), (3, .int (a2)), (4, .int (a3)), (5, .int (a4))], [], me_w M J3) _ := k
    have k := ly_revb 2 (c' := (33, [(0, .ref B), (1, .int (a0)), (2, .int (a1)), (3, .int (a2)), (4, .int (a3)), (5, .int (a4))], [.int (a3), .ref B], me_w M J3)) rfl k
    obtain ⟨d1, o1, ed, kc, k⟩ := lz_c (g := 131) (q := 1) (vs := [.ref B, .int (a3)]) (rest := []) rfl rfl (by decide) (Or.inr (Or.inl ⟨_, rfl, rfl⟩)) rfl k
    obtain ⟨J4, e1, l4, y4, f4, g4⟩ := lq_four (p := p + 12) hr hYT hk l3 (by omega) kc
    subst e1
    have k : nt_rn X _ 130 (36, [(0, .ref B), (1, .int (a0)), (2, .int (a1)), (3, .int (a2)), (4, .int (a3)), (5, .int (a4))], [], me_w M J4) _ := k
    have k := ly_revb 2 (c' := (39, [(0, .ref B), (1, .int (a0)), (2, .int (a1)), (3, .int (a2)), (4, .int (a3)), (5, .int (a4))], [.int (a4), .ref B], me_w M J4)) rfl k
    obtain ⟨d1, o1, ed, kc, k⟩ := lz_c (g := 131) (q := 1) (vs := [.ref B, .int (a4)]) (rest := []) rfl rfl (by decide) (Or.inr (Or.inl ⟨_, rfl, rfl⟩)) rfl k
    obtain ⟨J5, e1, l5, y5, f5, g5⟩ := lq_four (p := p + 16) hr hYT hk l4 (by omega) kc
    subst e1
    have k : nt_rn X _ 130 (42, [(0, .ref B), (1, .int (a0)), (2, .int (a1)), (3, .int (a2)), (4, .int (a3)), (5, .int (a4))], [], me_w M J5) _ := k
    have k := ly_revb 1 (c' := (43, [(0, .ref B), (1, .int (a0)), (2, .int (a1)), (3, .int (a2)), (4, .int (a3)), (5, .int (a4))], [.ref B], me_w M J5)) rfl k
    have k := lz_get (a := B) (g := 1101) (M := me_w M J5) (v := .int (nI (p + 16 + 4))) rfl (congrArg Value.int (l5)) k
    have k := lz_ri rfl (by decide) k
    refine Or.inr ⟨by omega, J5, k, l5, ?_, fun i hi => ?_, fun a h1 h2 => ?_⟩
    · rw [y5, y4, y3, y2, y1]
      rfl
    · rw [f5 i hi, f4 i hi, f3 i hi, f2 i hi, f1 i hi]
    · rw [g5 a h1 h2, g4 a h1 h2, g3 a h1 h2, g2 a h1 h2, g1 a h1 h2]
  · rw [if_neg (show ¬ ((nI (p + 20)) ≤ (Int32.ofInt 400)) from show ¬ nI (p + 20) ≤ nI 400 from nI_ge (Nat.not_le.mp h10) (by omega))] at k
    have k := ly_revb 1 (c' := (14, [(0, .ref B), (1, .int (a0)), (2, .int (a1)), (3, .int (a2)), (4, .int (a3)), (5, .int (a4))], [.int (Int32.ofInt (-1))], me_w M J)) rfl k
    have k := lz_ri rfl (by decide) k
    exact Or.inl ⟨by omega, k⟩
theorem lq_endC {X : nt_X} {d N T p : Nat} {M : nt_M} {J : Nat → Nat → Int32} {o : Option Value × nt_M} {n : Int32} (hn : nt_R M N 0 = some T) (hl : J T 1 = nI p) (k : nt_ev X d 103 [.ref N, .int n] (me_w M J) o) : ((n < 0 ∨ ¬ n ≤ nI p) ∧ o = (some (.int (Int32.ofInt (-1))), me_w M J)) ∨ (¬ n < 0 ∧ n ≤ nI p ∧ o = (some (.int n), me_w M (nt_u J T 1 n))) := by
  have k : nt_rn X d 103 (0, [(0, .ref N), (1, .int (n))], [], me_w M J) o := k
  have k := ly_revb 2 (c' := (if n < 0 then 15 else 4, [(0, .ref N), (1, .int (n))], [], me_w M J)) rfl k
  by_cases h1 : n < 0
  · rw [if_pos (show n < 0 from h1)] at k
    have k := ly_revb 1 (c' := (16, [(0, .ref N), (1, .int (n))], [.int (Int32.ofInt (-1))], me_w M J)) rfl k
    have k := lz_ri rfl (by decide) k
    exact Or.inl ⟨Or.inl h1, k⟩
  · rw [if_neg (show ¬ (n < 0) from h1)] at k
    have k := ly_revb 2 (c' := (6, [(0, .ref N), (1, .int (n))], [.ref N, .int (n)], me_w M J)) rfl k
    have k := lz_get (a := N) (g := 1000) (M := me_w M J) (v := .ref T) rfl (nt_gfR rfl hn) k
    have k := lz_get (a := T) (g := 701) (M := me_w M J) (v := .int (nI p)) rfl (congrArg Value.int (hl)) k
    have k := ly_revb 1 (c' := (if n ≤ (nI p) then 17 else 15, [(0, .ref N), (1, .int (n))], [], me_w M J)) rfl k
    by_cases h12 : n ≤ nI p
    · rw [if_pos (show n ≤ (nI p) from h12)] at k
      have k := ly_revb 1 (c' := (18, [(0, .ref N), (1, .int (n))], [.ref N], me_w M J)) rfl k
      have k := lz_get (a := N) (g := 1000) (M := me_w M J) (v := .ref T) rfl (nt_gfR rfl hn) k
      have k := ly_revb 1 (c' := (22, [(0, .ref N), (1, .int (n))], [.int (n), .ref T], me_w M J)) rfl k
      have k := me_put rfl (by decide) k
      have k : nt_rn X _ 103 (25, [(0, .ref N), (1, .int (n))], [], me_w M (nt_u J T 1 (n))) _ := k
      have k := ly_revb 1 (c' := (26, [(0, .ref N), (1, .int (n))], [.int (n)], me_w M (nt_u J T 1 (n)))) rfl k
      have k := lz_ri rfl (by decide) k
      exact Or.inr ⟨h1, h12, k⟩
    · rw [if_neg (show ¬ (n ≤ (nI p)) from h12)] at k
      have k := ly_revb 1 (c' := (16, [(0, .ref N), (1, .int (n))], [.int (Int32.ofInt (-1))], me_w M J)) rfl k
      have k := lz_ri rfl (by decide) k
      exact Or.inl ⟨Or.inr h12, k⟩
theorem lq_endR {X : nt_X} {d B p : Nat} {M : nt_M} {J : Nat → Nat → Int32} {o : Option Value × nt_M} {n : Int32} (hl : J B 1 = nI p) (k : nt_ev X d 132 [.ref B, .int n] (me_w M J) o) : ((n < 0 ∨ ¬ n ≤ nI p) ∧ o = (some (.int (Int32.ofInt (-1))), me_w M J)) ∨ (¬ n < 0 ∧ n ≤ nI p ∧ o = (some (.int n), me_w M (nt_u J B 1 n))) := by
  have k : nt_rn X d 132 (0, [(0, .ref B), (1, .int (n))], [], me_w M J) o := k
  have k := ly_revb 2 (c' := (if n < 0 then 12 else 4, [(0, .ref B), (1, .int (n))], [], me_w M J)) rfl k
  by_cases h1 : n < 0
  · rw [if_pos (show n < 0 from h1)] at k
    have k := ly_revb 1 (c' := (13, [(0, .ref B), (1, .int (n))], [.int (Int32.ofInt (-1))], me_w M J)) rfl k
    have k := lz_ri rfl (by decide) k
    exact Or.inl ⟨Or.inl h1, k⟩
  · rw [if_neg (show ¬ (n < 0) from h1)] at k
    have k := ly_revb 2 (c' := (6, [(0, .ref B), (1, .int (n))], [.ref B, .int (n)], me_w M J)) rfl k
    have k := lz_get (a := B) (g := 1101) (M := me_w M J) (v := .int (nI p)) rfl (congrArg Value.int (hl)) k
    have k := ly_revb 1 (c' := (if n ≤ (nI p) then 14 else 12, [(0, .ref B), (1, .int (n))], [], me_w M J)) rfl k
    by_cases h9 : n ≤ nI p
    · rw [if_pos (show n ≤ (nI p) from h9)] at k
      have k := ly_revb 2 (c' := (16, [(0, .ref B), (1, .int (n))], [.int (n), .ref B], me_w M J)) rfl k
      have k := me_put rfl (by decide) k
      have k : nt_rn X _ 132 (19, [(0, .ref B), (1, .int (n))], [], me_w M (nt_u J B 1 (n))) _ := k
      have k := ly_revb 1 (c' := (20, [(0, .ref B), (1, .int (n))], [.int (n)], me_w M (nt_u J B 1 (n)))) rfl k
      have k := lz_ri rfl (by decide) k
      exact Or.inr ⟨h1, h9, k⟩
    · rw [if_neg (show ¬ (n ≤ (nI p)) from h9)] at k
      have k := ly_revb 1 (c' := (13, [(0, .ref B), (1, .int (n))], [.int (Int32.ofInt (-1))], me_w M J)) rfl k
      have k := lz_ri rfl (by decide) k
      exact Or.inl ⟨Or.inr h9, k⟩
end
