theorem lq_E0 {M : nt_M} (hM : M = ly_fo 0 nt_M0 ly_io) : lq_E ly_p0 M := by
  have h0 : nt_n nt_M0 = 0 := rfl
  have z : ∀ i j, i < 66 → nt_I M i j = 0 := fun i j hi => by
    have := ly_fo_I (n := 0) (M := nt_M0) (i := i) h0 ly_io (by rw [ly_io_c]; exact hi) j
    rw [Nat.zero_add, ← hM] at this
    exact this
  have lt : ∀ g, g < 66 → ly_p0 g < 66 := fun g hg => Nat.blt_eq.mp (List.all_eq_true.mp ly_p0_lt g (List.mem_range.mpr hg))
  refine ⟨0, 0, by omega, by omega, z _ _ (lt 17 (by omega)), z _ _ (lt 0 (by omega)), fun j => by rw [z _ _ (lt 8 (by omega)), z _ _ (lt 18 (by omega))], fun j => by rw [z _ _ (lt 18 (by omega))]; decide, z _ _ (lt 16 (by omega)), z _ _ (lt 0 (by omega))⟩
/-! THE LAW's loop -/
def ly_L (i : Nat) : nt_V := [(3, .int (nI i)), (2, .ref 50), (1, .ref 0), (0, .ref nt_sp)]
theorem ly_ald {X : nt_X} {mi g t pc k : Nat} {ls : nt_V} {st : List Value} {M : nt_M} (hX : X.1 ≤ 3072) (hk : k < X.1) : nt_sx X mi g t .iaload pc ls (.int (nI k) :: .ref nt_sp :: st) M = some (pc + 1, ls, .int (X.2 k) :: st, M) := by
  show (if nt_sp = nt_sp then (if nI k < 0 ∨ X.1 ≤ (nI k).toNatClampNeg then none else some (pc + 1, ls, Value.int (X.2 (nI k).toNatClampNeg) :: st, M)) else nt_in M nt_sp 13 (nI k) (some (pc + 1, ls, Value.int (nt_I M nt_sp (nI k).toNatClampNeg) :: st, M))) = _
  rw [if_pos rfl, nI_clamp (by omega), if_neg (fun h => by
    rcases h with h | h
    · exact nI_pos (by omega) h
    · omega)]
theorem ly_push {X : nt_X} {d pc i j : Nat} {st : List Value} {M : nt_M} {o : Option Value × nt_M} (hX : X.1 ≤ 3072) (hl : i + j < X.1) (h4 : nt_bk X 239 4 (pc, ly_L i, st, M) = some (pc + 4, ly_L i, .int (nI i + Int32.ofInt (j : Int)) :: .ref nt_sp :: st, M)) (ha : nt_at 239 (pc + 4) = some (pc + 4, .iaload, 0, 0)) (k : nt_rn X d 239 (pc + 5, ly_L i, .int (X.2 (i + j)) :: st, M) o) : nt_rn X d 239 (pc, ly_L i, st, M) o := by
  refine nt_rn_b 4 h4 ?_
  refine nt_rn_s (c' := (pc + 5, ly_L i, .int (X.2 (i + j)) :: st, M)) (e := (pc + 4, .iaload, 0, 0)) ha rfl ?_ k
  have e : nI i + Int32.ofInt (j : Int) = nI (i + j) := nI_add i j
  dsimp only
  rw [e]
  exact ly_ald hX hl
theorem ly_rc16 {M : nt_M} {vs : List Value} (hI : ly_Inv M) : nt_rc M 10 (.ref 0 :: vs) = true := by
  obtain ⟨pl, v, hB, hS, _⟩ := hI
  have g := hB.2.1.2 16 _ (show ly_E.2.1[16]? = some (10, 0, 0, 8) from rfl)
  rw [hS.1.2.1] at g
  exact nt_rcI g.1 g.2.1
set_option maxRecDepth 20000 in
theorem ly_goto {X : nt_X} {d i : Nat} {M : nt_M} {o : Option Value × nt_M} (k : nt_rn X d 239 (18, ly_L (i + 6), [], M) o) : nt_rn X d 239 (856, ly_L i, [], M) o := by
  refine nt_rn_b 2 (c' := (18, [(3, .int (nI i + Int32.ofInt 6)), (2, .ref 50), (1, .ref 0), (0, .ref nt_sp)], [], M)) rfl ?_
  rw [show nI i + Int32.ofInt 6 = nI (i + 6) from nI_add i 6]
  exact k
set_option maxRecDepth 20000 in
theorem ly_k_feed {X : nt_X} {i : Nat} {M : nt_M} (hX : X.1 ≤ 3072) (hi : i + 6 ≤ X.1) (hI : ly_Inv M) : ∃ M2, ly_Inv M2 ∧ ∀ o, nt_rn X 100 239 (18, ly_L (i + 6), [], M2) o → nt_rn X 100 239 (144, ly_L i, [], M) o := by
  obtain ⟨y1, M1, y2, M2, e1, e2, hI2, hq, g50⟩ := ly_c_feed (X := X) (X.2 (i + 1)) (X.2 (i + 2)) (X.2 (i + 3)) (X.2 (i + 4)) (X.2 (i + 5)) hI
  refine ⟨M2, hI2, fun o h => ?_⟩
  refine nt_rn_b 1 (c' := (145, ly_L i, [.ref 0], M)) rfl ?_
  refine ly_push (j := 1) hX (by omega) rfl rfl ?_
  refine ly_push (j := 2) hX (by omega) rfl rfl ?_
  refine ly_push (j := 3) hX (by omega) rfl rfl ?_
  refine ly_push (j := 4) hX (by omega) rfl rfl ?_
  refine ly_push (j := 5) hX (by omega) rfl rfl ?_
  refine nt_rn_c (g := 102) (q := 1) (vs := [.ref 0, .int (X.2 (i + 1)), .int (X.2 (i + 2)), .int (X.2 (i + 3)), .int (X.2 (i + 4)), .int (X.2 (i + 5))]) (rest := []) (e := (170, .invokevirtual 13, 102, 0)) rfl rfl (Or.inr (Or.inl ⟨_, rfl, rfl⟩)) rfl (fun _ => ly_rc16 hI) (fun h => by cases h) e1 ?_
  refine nt_rn_b 1 (c' := (174, ly_L i, [], M1)) rfl ?_
  refine nt_rn_b 1 (c' := (175, ly_L i, [.ref 50], M1)) rfl ?_
  refine ly_push (j := 1) hX (by omega) rfl rfl ?_
  refine ly_push (j := 2) hX (by omega) rfl rfl ?_
  refine ly_push (j := 3) hX (by omega) rfl rfl ?_
  refine ly_push (j := 4) hX (by omega) rfl rfl ?_
  refine ly_push (j := 5) hX (by omega) rfl rfl ?_
  refine nt_rn_c (g := 130) (q := 1) (vs := [.ref 50, .int (X.2 (i + 1)), .int (X.2 (i + 2)), .int (X.2 (i + 3)), .int (X.2 (i + 4)), .int (X.2 (i + 5))]) (rest := []) (e := (200, .invokevirtual 17, 130, 0)) rfl rfl (Or.inr (Or.inl ⟨_, rfl, rfl⟩)) rfl (fun _ => nt_rcI g50.1 g50.2) (fun h => by cases h) e2 ?_
  refine nt_rn_b 1 (c' := (204, ly_L i, [], M2)) rfl ?_
  refine nt_rn_b 1 (c' := (856, ly_L i, [], M2)) rfl ?_
  exact ly_goto h
set_option maxRecDepth 20000 in
theorem ly_k_end {X : nt_X} {i : Nat} {M : nt_M} (hX : X.1 ≤ 3072) (hi : i + 6 ≤ X.1) (hI : ly_Inv M) : ∃ M2, ly_Inv M2 ∧ ∀ o, nt_rn X 100 239 (18, ly_L (i + 6), [], M2) o → nt_rn X 100 239 (207, ly_L i, [], M) o := by
  obtain ⟨y1, M1, y2, M2, e1, e2, hI2, hq, g50⟩ := ly_c_end (X := X) (X.2 (i + 1)) hI
  refine ⟨M2, hI2, fun o h => ?_⟩
  refine nt_rn_b 1 (c' := (208, ly_L i, [.ref 0], M)) rfl ?_
  refine ly_push (j := 1) hX (by omega) rfl rfl ?_
  refine nt_rn_c (g := 103) (q := 1) (vs := [.ref 0, .int (X.2 (i + 1))]) (rest := []) (e := (213, .invokevirtual 18, 103, 0)) rfl rfl (Or.inr (Or.inl ⟨_, rfl, rfl⟩)) rfl (fun _ => ly_rc16 hI) (fun h => by cases h) e1 ?_
  refine nt_rn_b 1 (c' := (217, ly_L i, [], M1)) rfl ?_
  refine nt_rn_b 1 (c' := (218, ly_L i, [.ref 50], M1)) rfl ?_
  refine ly_push (j := 1) hX (by omega) rfl rfl ?_
  refine nt_rn_c (g := 132) (q := 1) (vs := [.ref 50, .int (X.2 (i + 1))]) (rest := []) (e := (223, .invokevirtual 22, 132, 0)) rfl rfl (Or.inr (Or.inl ⟨_, rfl, rfl⟩)) rfl (fun _ => nt_rcI g50.1 g50.2) (fun h => by cases h) e2 ?_
  refine nt_rn_b 1 (c' := (227, ly_L i, [], M2)) rfl ?_
  refine nt_rn_b 1 (c' := (856, ly_L i, [], M2)) rfl ?_
  exact ly_goto h
set_option maxRecDepth 20000 in
theorem ly_k_yard {X : nt_X} {i : Nat} {M : nt_M} (hX : X.1 ≤ 3072) (hi : i + 6 ≤ X.1) (hI : ly_Inv M) : ∃ M2, ly_Inv M2 ∧ ∀ o, nt_rn X 100 239 (18, ly_L (i + 6), [], M2) o → nt_rn X 100 239 (230, ly_L i, [], M) o := by
  obtain ⟨y1, M1, y2, M2, e1, e2, hI2, hq, g50⟩ := ly_c_yard (X := X) hI
  refine ⟨M2, hI2, fun o h => ?_⟩
  refine nt_rn_b 1 (c' := (231, ly_L i, [.ref 0], M)) rfl ?_
  refine nt_rn_c (g := 104) (q := 1) (vs := [.ref 0]) (rest := []) (e := (231, .invokevirtual 23, 104, 0)) rfl rfl (Or.inr (Or.inl ⟨_, rfl, rfl⟩)) rfl (fun _ => ly_rc16 hI) (fun h => by cases h) e1 ?_
  refine nt_rn_b 1 (c' := (235, ly_L i, [], M1)) rfl ?_
  refine nt_rn_b 1 (c' := (236, ly_L i, [.ref 50], M1)) rfl ?_
  refine nt_rn_c (g := 166) (q := 1) (vs := [.ref 50]) (rest := []) (e := (236, .invokevirtual 27, 166, 0)) rfl rfl (Or.inr (Or.inl ⟨_, rfl, rfl⟩)) rfl (fun _ => nt_rcI g50.1 g50.2) (fun h => by cases h) e2 ?_
  refine nt_rn_b 1 (c' := (240, ly_L i, [], M2)) rfl ?_
  refine nt_rn_b 1 (c' := (856, ly_L i, [], M2)) rfl ?_
  exact ly_goto h
set_option maxRecDepth 20000 in
theorem ly_k_rule {X : nt_X} {i : Nat} {M : nt_M} (hRR : sx_KOK X (sx_tbs, sx_gps) kk_w_rread2) (hX : X.1 ≤ 3072) (hi : i + 6 ≤ X.1) (hI : ly_Inv M) : ∃ M2, ly_Inv M2 ∧ ∀ o, nt_rn X 100 239 (18, ly_L (i + 6), [], M2) o → nt_rn X 100 239 (243, ly_L i, [], M) o := by
  obtain ⟨y1, M1, y2, M2, e1, e2, hI2, hq, g50⟩ := ly_c_rule (X := X) hRR hI
  refine ⟨M2, hI2, fun o h => ?_⟩
  refine nt_rn_b 1 (c' := (244, ly_L i, [.ref 0], M)) rfl ?_
  refine nt_rn_c (g := 105) (q := 1) (vs := [.ref 0]) (rest := []) (e := (244, .invokevirtual 28, 105, 0)) rfl rfl (Or.inr (Or.inl ⟨_, rfl, rfl⟩)) rfl (fun _ => ly_rc16 hI) (fun h => by cases h) e1 ?_
  refine nt_rn_b 1 (c' := (248, ly_L i, [], M1)) rfl ?_
  refine nt_rn_b 1 (c' := (249, ly_L i, [.ref 50], M1)) rfl ?_
  refine nt_rn_c (g := 133) (q := 1) (vs := [.ref 50]) (rest := []) (e := (249, .invokevirtual 31, 133, 0)) rfl rfl (Or.inr (Or.inl ⟨_, rfl, rfl⟩)) rfl (fun _ => nt_rcI g50.1 g50.2) (fun h => by cases h) e2 ?_
  refine nt_rn_b 1 (c' := (253, ly_L i, [], M2)) rfl ?_
  refine nt_rn_b 1 (c' := (856, ly_L i, [], M2)) rfl ?_
  exact ly_goto h
set_option maxRecDepth 20000 in
theorem ly_k_ship {X : nt_X} {i : Nat} {M : nt_M} (hX : X.1 ≤ 3072) (hi : i + 6 ≤ X.1) (hI : ly_Inv M) : ∃ M2, ly_Inv M2 ∧ ∀ o, nt_rn X 100 239 (18, ly_L (i + 6), [], M2) o → nt_rn X 100 239 (256, ly_L i, [], M) o := by
  obtain ⟨y1, M1, y2, M2, e1, e2, hI2, hq, g50⟩ := ly_c_ship (X := X) (X.2 (i + 1)) (X.2 (i + 2)) hI
  refine ⟨M2, hI2, fun o h => ?_⟩
  refine nt_rn_b 1 (c' := (257, ly_L i, [.ref 0], M)) rfl ?_
  refine ly_push (j := 1) hX (by omega) rfl rfl ?_
  refine ly_push (j := 2) hX (by omega) rfl rfl ?_
  refine nt_rn_c (g := 106) (q := 1) (vs := [.ref 0, .int (X.2 (i + 1)), .int (X.2 (i + 2))]) (rest := []) (e := (267, .invokevirtual 32, 106, 0)) rfl rfl (Or.inr (Or.inl ⟨_, rfl, rfl⟩)) rfl (fun _ => ly_rc16 hI) (fun h => by cases h) e1 ?_
  refine nt_rn_b 1 (c' := (271, ly_L i, [], M1)) rfl ?_
  refine nt_rn_b 1 (c' := (272, ly_L i, [.ref 50], M1)) rfl ?_
  refine ly_push (j := 1) hX (by omega) rfl rfl ?_
  refine ly_push (j := 2) hX (by omega) rfl rfl ?_
  refine nt_rn_c (g := 167) (q := 1) (vs := [.ref 50, .int (X.2 (i + 1)), .int (X.2 (i + 2))]) (rest := []) (e := (282, .invokevirtual 36, 167, 0)) rfl rfl (Or.inr (Or.inl ⟨_, rfl, rfl⟩)) rfl (fun _ => nt_rcI g50.1 g50.2) (fun h => by cases h) e2 ?_
  refine nt_rn_b 1 (c' := (286, ly_L i, [], M2)) rfl ?_
  refine nt_rn_b 1 (c' := (856, ly_L i, [], M2)) rfl ?_
  exact ly_goto h
set_option maxRecDepth 20000 in
theorem ly_k_plank {X : nt_X} {i : Nat} {M : nt_M} (hX : X.1 ≤ 3072) (hi : i + 6 ≤ X.1) (hI : ly_Inv M) : ∃ M2, ly_Inv M2 ∧ ∀ o, nt_rn X 100 239 (18, ly_L (i + 6), [], M2) o → nt_rn X 100 239 (289, ly_L i, [], M) o := by
  obtain ⟨y1, M1, y2, M2, e1, e2, hI2, hq, g50⟩ := ly_c_plank (X := X) (X.2 (i + 1)) (X.2 (i + 2)) hI
  refine ⟨M2, hI2, fun o h => ?_⟩
  refine nt_rn_b 1 (c' := (290, ly_L i, [.ref 0], M)) rfl ?_
  refine ly_push (j := 1) hX (by omega) rfl rfl ?_
  refine ly_push (j := 2) hX (by omega) rfl rfl ?_
  refine nt_rn_c (g := 107) (q := 1) (vs := [.ref 0, .int (X.2 (i + 1)), .int (X.2 (i + 2))]) (rest := []) (e := (300, .invokevirtual 37, 107, 0)) rfl rfl (Or.inr (Or.inl ⟨_, rfl, rfl⟩)) rfl (fun _ => ly_rc16 hI) (fun h => by cases h) e1 ?_
  refine nt_rn_b 1 (c' := (304, ly_L i, [], M1)) rfl ?_
  refine nt_rn_b 1 (c' := (305, ly_L i, [.ref 50], M1)) rfl ?_
  refine ly_push (j := 1) hX (by omega) rfl rfl ?_
  refine ly_push (j := 2) hX (by omega) rfl rfl ?_
  refine nt_rn_c (g := 176) (q := 1) (vs := [.ref 50, .int (X.2 (i + 1)), .int (X.2 (i + 2))]) (rest := []) (e := (315, .invokevirtual 40, 176, 0)) rfl rfl (Or.inr (Or.inl ⟨_, rfl, rfl⟩)) rfl (fun _ => nt_rcI g50.1 g50.2) (fun h => by cases h) e2 ?_
  refine nt_rn_b 1 (c' := (319, ly_L i, [], M2)) rfl ?_
  refine nt_rn_b 1 (c' := (856, ly_L i, [], M2)) rfl ?_
  exact ly_goto h
set_option maxRecDepth 20000 in
theorem ly_k_voyage {X : nt_X} {i : Nat} {M : nt_M} (hX : X.1 ≤ 3072) (hi : i + 6 ≤ X.1) (hI : ly_Inv M) : ∃ M2, ly_Inv M2 ∧ ∀ o, nt_rn X 100 239 (18, ly_L (i + 6), [], M2) o → nt_rn X 100 239 (322, ly_L i, [], M) o := by
  obtain ⟨y1, M1, y2, M2, e1, e2, hI2, hq, g50⟩ := ly_c_voyage (X := X) (X.2 (i + 1)) (X.2 (i + 2)) hI
  refine ⟨M2, hI2, fun o h => ?_⟩
  refine nt_rn_b 1 (c' := (323, ly_L i, [.ref 0], M)) rfl ?_
  refine ly_push (j := 1) hX (by omega) rfl rfl ?_
  refine ly_push (j := 2) hX (by omega) rfl rfl ?_
  refine nt_rn_c (g := 108) (q := 1) (vs := [.ref 0, .int (X.2 (i + 1)), .int (X.2 (i + 2))]) (rest := []) (e := (333, .invokevirtual 41, 108, 0)) rfl rfl (Or.inr (Or.inl ⟨_, rfl, rfl⟩)) rfl (fun _ => ly_rc16 hI) (fun h => by cases h) e1 ?_
  refine nt_rn_b 1 (c' := (337, ly_L i, [], M1)) rfl ?_
  refine nt_rn_b 1 (c' := (338, ly_L i, [.ref 50], M1)) rfl ?_
  refine ly_push (j := 1) hX (by omega) rfl rfl ?_
  refine ly_push (j := 2) hX (by omega) rfl rfl ?_
  refine nt_rn_c (g := 178) (q := 1) (vs := [.ref 50, .int (X.2 (i + 1)), .int (X.2 (i + 2))]) (rest := []) (e := (348, .invokevirtual 44, 178, 0)) rfl rfl (Or.inr (Or.inl ⟨_, rfl, rfl⟩)) rfl (fun _ => nt_rcI g50.1 g50.2) (fun h => by cases h) e2 ?_
  refine nt_rn_b 1 (c' := (352, ly_L i, [], M2)) rfl ?_
  refine nt_rn_b 1 (c' := (856, ly_L i, [], M2)) rfl ?_
  exact ly_goto h
set_option maxRecDepth 20000 in
theorem ly_k_move {X : nt_X} {i : Nat} {M : nt_M} (hX : X.1 ≤ 3072) (hi : i + 6 ≤ X.1) (hI : ly_Inv M) : ∃ M2, ly_Inv M2 ∧ ∀ o, nt_rn X 100 239 (18, ly_L (i + 6), [], M2) o → nt_rn X 100 239 (355, ly_L i, [], M) o := by
  obtain ⟨y1, M1, y2, M2, e1, e2, hI2, hq, g50⟩ := ly_c_move (X := X) (X.2 (i + 1)) (X.2 (i + 2)) hI
  refine ⟨M2, hI2, fun o h => ?_⟩
  refine nt_rn_b 1 (c' := (356, ly_L i, [.ref 0], M)) rfl ?_
  refine ly_push (j := 1) hX (by omega) rfl rfl ?_
  refine ly_push (j := 2) hX (by omega) rfl rfl ?_
  refine nt_rn_c (g := 109) (q := 1) (vs := [.ref 0, .int (X.2 (i + 1)), .int (X.2 (i + 2))]) (rest := []) (e := (366, .invokevirtual 45, 109, 0)) rfl rfl (Or.inr (Or.inl ⟨_, rfl, rfl⟩)) rfl (fun _ => ly_rc16 hI) (fun h => by cases h) e1 ?_
  refine nt_rn_b 1 (c' := (370, ly_L i, [], M1)) rfl ?_
  refine nt_rn_b 1 (c' := (371, ly_L i, [.ref 50], M1)) rfl ?_
  refine ly_push (j := 1) hX (by omega) rfl rfl ?_
  refine ly_push (j := 2) hX (by omega) rfl rfl ?_
  refine nt_rn_c (g := 181) (q := 1) (vs := [.ref 50, .int (X.2 (i + 1)), .int (X.2 (i + 2))]) (rest := []) (e := (381, .invokevirtual 49, 181, 0)) rfl rfl (Or.inr (Or.inl ⟨_, rfl, rfl⟩)) rfl (fun _ => nt_rcI g50.1 g50.2) (fun h => by cases h) e2 ?_
  refine nt_rn_b 1 (c' := (385, ly_L i, [], M2)) rfl ?_
  refine nt_rn_b 1 (c' := (856, ly_L i, [], M2)) rfl ?_
  exact ly_goto h
set_option maxRecDepth 20000 in
theorem ly_k_days {X : nt_X} {i : Nat} {M : nt_M} (hX : X.1 ≤ 3072) (hi : i + 6 ≤ X.1) (hI : ly_Inv M) : ∃ M2, ly_Inv M2 ∧ ∀ o, nt_rn X 100 239 (18, ly_L (i + 6), [], M2) o → nt_rn X 100 239 (388, ly_L i, [], M) o := by
  obtain ⟨y1, M1, y2, M2, e1, e2, hI2, hq, g50⟩ := ly_c_days (X := X) (X.2 (i + 1)) (X.2 (i + 2)) hI
  refine ⟨M2, hI2, fun o h => ?_⟩
  refine nt_rn_b 1 (c' := (389, ly_L i, [.ref 0], M)) rfl ?_
  refine ly_push (j := 1) hX (by omega) rfl rfl ?_
  refine ly_push (j := 2) hX (by omega) rfl rfl ?_
  refine nt_rn_c (g := 110) (q := 1) (vs := [.ref 0, .int (X.2 (i + 1)), .int (X.2 (i + 2))]) (rest := []) (e := (399, .invokevirtual 50, 110, 0)) rfl rfl (Or.inr (Or.inl ⟨_, rfl, rfl⟩)) rfl (fun _ => ly_rc16 hI) (fun h => by cases h) e1 ?_
  refine nt_rn_b 1 (c' := (403, ly_L i, [], M1)) rfl ?_
  refine nt_rn_b 1 (c' := (404, ly_L i, [.ref 50], M1)) rfl ?_
  refine ly_push (j := 1) hX (by omega) rfl rfl ?_
  refine ly_push (j := 2) hX (by omega) rfl rfl ?_
  refine nt_rn_c (g := 186) (q := 1) (vs := [.ref 50, .int (X.2 (i + 1)), .int (X.2 (i + 2))]) (rest := []) (e := (414, .invokevirtual 53, 186, 0)) rfl rfl (Or.inr (Or.inl ⟨_, rfl, rfl⟩)) rfl (fun _ => nt_rcI g50.1 g50.2) (fun h => by cases h) e2 ?_
  refine nt_rn_b 1 (c' := (418, ly_L i, [], M2)) rfl ?_
  refine nt_rn_b 1 (c' := (856, ly_L i, [], M2)) rfl ?_
  exact ly_goto h
set_option maxRecDepth 20000 in
theorem ly_k_lacks {X : nt_X} {i : Nat} {M : nt_M} (hX : X.1 ≤ 3072) (hi : i + 6 ≤ X.1) (hI : ly_Inv M) : ∃ M2, ly_Inv M2 ∧ ∀ o, nt_rn X 100 239 (18, ly_L (i + 6), [], M2) o → nt_rn X 100 239 (421, ly_L i, [], M) o := by
  obtain ⟨y1, M1, y2, M2, e1, e2, hI2, hq, g50⟩ := ly_c_lacks (X := X) (X.2 (i + 1)) (X.2 (i + 2)) hI
  refine ⟨M2, hI2, fun o h => ?_⟩
  refine nt_rn_b 1 (c' := (422, ly_L i, [.ref 0], M)) rfl ?_
  refine ly_push (j := 1) hX (by omega) rfl rfl ?_
  refine ly_push (j := 2) hX (by omega) rfl rfl ?_
  refine nt_rn_c (g := 113) (q := 1) (vs := [.ref 0, .int (X.2 (i + 1)), .int (X.2 (i + 2))]) (rest := []) (e := (432, .invokevirtual 54, 113, 0)) rfl rfl (Or.inr (Or.inl ⟨_, rfl, rfl⟩)) rfl (fun _ => ly_rc16 hI) (fun h => by cases h) e1 ?_
  refine nt_rn_b 1 (c' := (436, ly_L i, [], M1)) rfl ?_
  refine nt_rn_b 1 (c' := (437, ly_L i, [.ref 50], M1)) rfl ?_
  refine ly_push (j := 1) hX (by omega) rfl rfl ?_
  refine ly_push (j := 2) hX (by omega) rfl rfl ?_
  refine nt_rn_c (g := 203) (q := 1) (vs := [.ref 50, .int (X.2 (i + 1)), .int (X.2 (i + 2))]) (rest := []) (e := (447, .invokevirtual 57, 203, 0)) rfl rfl (Or.inr (Or.inl ⟨_, rfl, rfl⟩)) rfl (fun _ => nt_rcI g50.1 g50.2) (fun h => by cases h) e2 ?_
  refine nt_rn_b 1 (c' := (451, ly_L i, [], M2)) rfl ?_
  refine nt_rn_b 1 (c' := (856, ly_L i, [], M2)) rfl ?_
  exact ly_goto h
set_option maxRecDepth 20000 in
theorem ly_k_together {X : nt_X} {i : Nat} {M : nt_M} (hX : X.1 ≤ 3072) (hi : i + 6 ≤ X.1) (hI : ly_Inv M) : ∃ M2, ly_Inv M2 ∧ ∀ o, nt_rn X 100 239 (18, ly_L (i + 6), [], M2) o → nt_rn X 100 239 (454, ly_L i, [], M) o := by
  obtain ⟨y1, M1, y2, M2, e1, e2, hI2, hq, g50⟩ := ly_c_together (X := X) (X.2 (i + 1)) hI
  refine ⟨M2, hI2, fun o h => ?_⟩
  refine nt_rn_b 1 (c' := (455, ly_L i, [.ref 0], M)) rfl ?_
  refine ly_push (j := 1) hX (by omega) rfl rfl ?_
  refine nt_rn_c (g := 114) (q := 1) (vs := [.ref 0, .int (X.2 (i + 1))]) (rest := []) (e := (460, .invokevirtual 58, 114, 0)) rfl rfl (Or.inr (Or.inl ⟨_, rfl, rfl⟩)) rfl (fun _ => ly_rc16 hI) (fun h => by cases h) e1 ?_
  refine nt_rn_b 1 (c' := (464, ly_L i, [], M1)) rfl ?_
  refine nt_rn_b 1 (c' := (465, ly_L i, [.ref 50], M1)) rfl ?_
  refine ly_push (j := 1) hX (by omega) rfl rfl ?_
  refine nt_rn_c (g := 204) (q := 1) (vs := [.ref 50, .int (X.2 (i + 1))]) (rest := []) (e := (470, .invokevirtual 61, 204, 0)) rfl rfl (Or.inr (Or.inl ⟨_, rfl, rfl⟩)) rfl (fun _ => nt_rcI g50.1 g50.2) (fun h => by cases h) e2 ?_
  refine nt_rn_b 1 (c' := (474, ly_L i, [], M2)) rfl ?_
  refine nt_rn_b 1 (c' := (856, ly_L i, [], M2)) rfl ?_
  exact ly_goto h
set_option maxRecDepth 20000 in
theorem ly_k_cut {X : nt_X} {i : Nat} {M : nt_M} (hX : X.1 ≤ 3072) (hi : i + 6 ≤ X.1) (hI : ly_Inv M) : ∃ M2, ly_Inv M2 ∧ ∀ o, nt_rn X 100 239 (18, ly_L (i + 6), [], M2) o → nt_rn X 100 239 (477, ly_L i, [], M) o := by
  obtain ⟨y1, M1, y2, M2, e1, e2, hI2, hq, g50⟩ := ly_c_cut (X := X) (X.2 (i + 1)) (X.2 (i + 2)) hI
  refine ⟨M2, hI2, fun o h => ?_⟩
  refine nt_rn_b 1 (c' := (478, ly_L i, [.ref 0], M)) rfl ?_
  refine ly_push (j := 1) hX (by omega) rfl rfl ?_
  refine ly_push (j := 2) hX (by omega) rfl rfl ?_
  refine nt_rn_c (g := 116) (q := 1) (vs := [.ref 0, .int (X.2 (i + 1)), .int (X.2 (i + 2))]) (rest := []) (e := (488, .invokevirtual 62, 116, 0)) rfl rfl (Or.inr (Or.inl ⟨_, rfl, rfl⟩)) rfl (fun _ => ly_rc16 hI) (fun h => by cases h) e1 ?_
  refine nt_rn_b 1 (c' := (492, ly_L i, [], M1)) rfl ?_
  refine nt_rn_b 1 (c' := (493, ly_L i, [.ref 50], M1)) rfl ?_
  refine ly_push (j := 1) hX (by omega) rfl rfl ?_
  refine ly_push (j := 2) hX (by omega) rfl rfl ?_
  refine nt_rn_c (g := 211) (q := 1) (vs := [.ref 50, .int (X.2 (i + 1)), .int (X.2 (i + 2))]) (rest := []) (e := (503, .invokevirtual 65, 211, 0)) rfl rfl (Or.inr (Or.inl ⟨_, rfl, rfl⟩)) rfl (fun _ => nt_rcI g50.1 g50.2) (fun h => by cases h) e2 ?_
  refine nt_rn_b 1 (c' := (507, ly_L i, [], M2)) rfl ?_
  refine nt_rn_b 1 (c' := (856, ly_L i, [], M2)) rfl ?_
  exact ly_goto h
set_option maxRecDepth 20000 in
theorem ly_k_most {X : nt_X} {i : Nat} {M : nt_M} (hX : X.1 ≤ 3072) (hi : i + 6 ≤ X.1) (hI : ly_Inv M) : ∃ M2, ly_Inv M2 ∧ ∀ o, nt_rn X 100 239 (18, ly_L (i + 6), [], M2) o → nt_rn X 100 239 (510, ly_L i, [], M) o := by
  obtain ⟨y1, M1, y2, M2, e1, e2, hI2, hq, g50⟩ := ly_c_most (X := X) (X.2 (i + 1)) hI
  refine ⟨M2, hI2, fun o h => ?_⟩
  refine nt_rn_b 1 (c' := (511, ly_L i, [.ref 0], M)) rfl ?_
  refine ly_push (j := 1) hX (by omega) rfl rfl ?_
  refine nt_rn_c (g := 117) (q := 1) (vs := [.ref 0, .int (X.2 (i + 1))]) (rest := []) (e := (516, .invokevirtual 66, 117, 0)) rfl rfl (Or.inr (Or.inl ⟨_, rfl, rfl⟩)) rfl (fun _ => ly_rc16 hI) (fun h => by cases h) e1 ?_
  refine nt_rn_b 1 (c' := (520, ly_L i, [], M1)) rfl ?_
  refine nt_rn_b 1 (c' := (521, ly_L i, [.ref 50], M1)) rfl ?_
  refine ly_push (j := 1) hX (by omega) rfl rfl ?_
  refine nt_rn_c (g := 212) (q := 1) (vs := [.ref 50, .int (X.2 (i + 1))]) (rest := []) (e := (526, .invokevirtual 69, 212, 0)) rfl rfl (Or.inr (Or.inl ⟨_, rfl, rfl⟩)) rfl (fun _ => nt_rcI g50.1 g50.2) (fun h => by cases h) e2 ?_
  refine nt_rn_b 1 (c' := (530, ly_L i, [], M2)) rfl ?_
  refine nt_rn_b 1 (c' := (856, ly_L i, [], M2)) rfl ?_
  exact ly_goto h
set_option maxRecDepth 20000 in
theorem ly_k_willDo {X : nt_X} {i : Nat} {M : nt_M} (hX : X.1 ≤ 3072) (hi : i + 6 ≤ X.1) (hI : ly_Inv M) : ∃ M2, ly_Inv M2 ∧ ∀ o, nt_rn X 100 239 (18, ly_L (i + 6), [], M2) o → nt_rn X 100 239 (533, ly_L i, [], M) o := by
  obtain ⟨y1, M1, y2, M2, e1, e2, hI2, hq, g50⟩ := ly_c_willDo (X := X) (X.2 (i + 1)) hI
  refine ⟨M2, hI2, fun o h => ?_⟩
  refine nt_rn_b 1 (c' := (534, ly_L i, [.ref 0], M)) rfl ?_
  refine ly_push (j := 1) hX (by omega) rfl rfl ?_
  refine nt_rn_c (g := 118) (q := 1) (vs := [.ref 0, .int (X.2 (i + 1))]) (rest := []) (e := (539, .invokevirtual 70, 118, 0)) rfl rfl (Or.inr (Or.inl ⟨_, rfl, rfl⟩)) rfl (fun _ => ly_rc16 hI) (fun h => by cases h) e1 ?_
  refine nt_rn_b 1 (c' := (543, ly_L i, [], M1)) rfl ?_
  refine nt_rn_b 1 (c' := (544, ly_L i, [.ref 50], M1)) rfl ?_
  refine ly_push (j := 1) hX (by omega) rfl rfl ?_
  refine nt_rn_c (g := 215) (q := 1) (vs := [.ref 50, .int (X.2 (i + 1))]) (rest := []) (e := (549, .invokevirtual 73, 215, 0)) rfl rfl (Or.inr (Or.inl ⟨_, rfl, rfl⟩)) rfl (fun _ => nt_rcI g50.1 g50.2) (fun h => by cases h) e2 ?_
  refine nt_rn_b 1 (c' := (553, ly_L i, [], M2)) rfl ?_
  refine nt_rn_b 1 (c' := (856, ly_L i, [], M2)) rfl ?_
  exact ly_goto h
set_option maxRecDepth 20000 in
theorem ly_k_same {X : nt_X} {i : Nat} {M : nt_M} (hX : X.1 ≤ 3072) (hi : i + 6 ≤ X.1) (hI : ly_Inv M) : ∃ M2, ly_Inv M2 ∧ ∀ o, nt_rn X 100 239 (18, ly_L (i + 6), [], M2) o → nt_rn X 100 239 (556, ly_L i, [], M) o := by
  obtain ⟨y1, M1, y2, M2, e1, e2, hI2, hq, g50⟩ := ly_c_same (X := X) (X.2 (i + 1)) (X.2 (i + 2)) hI
  refine ⟨M2, hI2, fun o h => ?_⟩
  refine nt_rn_b 1 (c' := (557, ly_L i, [.ref 0], M)) rfl ?_
  refine ly_push (j := 1) hX (by omega) rfl rfl ?_
  refine ly_push (j := 2) hX (by omega) rfl rfl ?_
  refine nt_rn_c (g := 119) (q := 1) (vs := [.ref 0, .int (X.2 (i + 1)), .int (X.2 (i + 2))]) (rest := []) (e := (567, .invokevirtual 74, 119, 0)) rfl rfl (Or.inr (Or.inl ⟨_, rfl, rfl⟩)) rfl (fun _ => ly_rc16 hI) (fun h => by cases h) e1 ?_
  refine nt_rn_b 1 (c' := (571, ly_L i, [], M1)) rfl ?_
  refine nt_rn_b 1 (c' := (572, ly_L i, [.ref 50], M1)) rfl ?_
  refine ly_push (j := 1) hX (by omega) rfl rfl ?_
  refine ly_push (j := 2) hX (by omega) rfl rfl ?_
  refine nt_rn_c (g := 217) (q := 1) (vs := [.ref 50, .int (X.2 (i + 1)), .int (X.2 (i + 2))]) (rest := []) (e := (582, .invokevirtual 77, 217, 0)) rfl rfl (Or.inr (Or.inl ⟨_, rfl, rfl⟩)) rfl (fun _ => nt_rcI g50.1 g50.2) (fun h => by cases h) e2 ?_
  refine nt_rn_b 1 (c' := (586, ly_L i, [], M2)) rfl ?_
  refine nt_rn_b 1 (c' := (856, ly_L i, [], M2)) rfl ?_
  exact ly_goto h
set_option maxRecDepth 20000 in
theorem ly_k_unlike {X : nt_X} {i : Nat} {M : nt_M} (hX : X.1 ≤ 3072) (hi : i + 6 ≤ X.1) (hI : ly_Inv M) : ∃ M2, ly_Inv M2 ∧ ∀ o, nt_rn X 100 239 (18, ly_L (i + 6), [], M2) o → nt_rn X 100 239 (589, ly_L i, [], M) o := by
  obtain ⟨y1, M1, y2, M2, e1, e2, hI2, hq, g50⟩ := ly_c_unlike (X := X) hI
  refine ⟨M2, hI2, fun o h => ?_⟩
  refine nt_rn_b 1 (c' := (590, ly_L i, [.ref 0], M)) rfl ?_
  refine nt_rn_c (g := 120) (q := 1) (vs := [.ref 0]) (rest := []) (e := (590, .invokevirtual 78, 120, 0)) rfl rfl (Or.inr (Or.inl ⟨_, rfl, rfl⟩)) rfl (fun _ => ly_rc16 hI) (fun h => by cases h) e1 ?_
  refine nt_rn_b 1 (c' := (594, ly_L i, [], M1)) rfl ?_
  refine nt_rn_b 1 (c' := (595, ly_L i, [.ref 50], M1)) rfl ?_
  refine nt_rn_c (g := 221) (q := 1) (vs := [.ref 50]) (rest := []) (e := (595, .invokevirtual 81, 221, 0)) rfl rfl (Or.inr (Or.inl ⟨_, rfl, rfl⟩)) rfl (fun _ => nt_rcI g50.1 g50.2) (fun h => by cases h) e2 ?_
  refine nt_rn_b 1 (c' := (599, ly_L i, [], M2)) rfl ?_
  refine nt_rn_b 1 (c' := (856, ly_L i, [], M2)) rfl ?_
  exact ly_goto h
set_option maxRecDepth 20000 in
theorem ly_k_wreck {X : nt_X} {i : Nat} {M : nt_M} (hX : X.1 ≤ 3072) (hi : i + 6 ≤ X.1) (hI : ly_Inv M) : ∃ M2, ly_Inv M2 ∧ ∀ o, nt_rn X 100 239 (18, ly_L (i + 6), [], M2) o → nt_rn X 100 239 (602, ly_L i, [], M) o := by
  obtain ⟨y1, M1, y2, M2, e1, e2, hI2, hq, g50⟩ := ly_c_wreck (X := X) (X.2 (i + 1)) (X.2 (i + 2)) hI
  refine ⟨M2, hI2, fun o h => ?_⟩
  refine nt_rn_b 1 (c' := (603, ly_L i, [.ref 0], M)) rfl ?_
  refine ly_push (j := 1) hX (by omega) rfl rfl ?_
  refine ly_push (j := 2) hX (by omega) rfl rfl ?_
  refine nt_rn_c (g := 121) (q := 1) (vs := [.ref 0, .int (X.2 (i + 1)), .int (X.2 (i + 2))]) (rest := []) (e := (613, .invokevirtual 82, 121, 0)) rfl rfl (Or.inr (Or.inl ⟨_, rfl, rfl⟩)) rfl (fun _ => ly_rc16 hI) (fun h => by cases h) e1 ?_
  refine nt_rn_b 1 (c' := (617, ly_L i, [], M1)) rfl ?_
  refine nt_rn_b 1 (c' := (618, ly_L i, [.ref 50], M1)) rfl ?_
  refine ly_push (j := 1) hX (by omega) rfl rfl ?_
  refine ly_push (j := 2) hX (by omega) rfl rfl ?_
  refine nt_rn_c (g := 222) (q := 1) (vs := [.ref 50, .int (X.2 (i + 1)), .int (X.2 (i + 2))]) (rest := []) (e := (628, .invokevirtual 85, 222, 0)) rfl rfl (Or.inr (Or.inl ⟨_, rfl, rfl⟩)) rfl (fun _ => nt_rcI g50.1 g50.2) (fun h => by cases h) e2 ?_
  refine nt_rn_b 1 (c' := (632, ly_L i, [], M2)) rfl ?_
  refine nt_rn_b 1 (c' := (856, ly_L i, [], M2)) rfl ?_
  exact ly_goto h
set_option maxRecDepth 20000 in
theorem ly_k_dealt {X : nt_X} {i : Nat} {M : nt_M} (hX : X.1 ≤ 3072) (hi : i + 6 ≤ X.1) (hI : ly_Inv M) : ∃ M2, ly_Inv M2 ∧ ∀ o, nt_rn X 100 239 (18, ly_L (i + 6), [], M2) o → nt_rn X 100 239 (635, ly_L i, [], M) o := by
  obtain ⟨y1, M1, y2, M2, e1, e2, hI2, hq, g50⟩ := ly_c_dealt (X := X) (X.2 (i + 1)) hI
  refine ⟨M2, hI2, fun o h => ?_⟩
  refine nt_rn_b 1 (c' := (636, ly_L i, [.ref 0], M)) rfl ?_
  refine ly_push (j := 1) hX (by omega) rfl rfl ?_
  refine nt_rn_c (g := 122) (q := 1) (vs := [.ref 0, .int (X.2 (i + 1))]) (rest := []) (e := (641, .invokevirtual 86, 122, 0)) rfl rfl (Or.inr (Or.inl ⟨_, rfl, rfl⟩)) rfl (fun _ => ly_rc16 hI) (fun h => by cases h) e1 ?_
  refine nt_rn_b 1 (c' := (645, ly_L i, [.ref 50, .int y1], M1)) rfl ?_
  refine ly_push (j := 1) hX (by omega) rfl rfl ?_
  refine nt_rn_c (g := 223) (q := 1) (vs := [.ref 50, .int (X.2 (i + 1))]) (rest := [.int y1]) (e := (650, .invokevirtual 89, 223, 0)) rfl rfl (Or.inr (Or.inl ⟨_, rfl, rfl⟩)) rfl (fun _ => nt_rcI g50.1 g50.2) (fun h => by cases h) e2 ?_
  refine nt_rn_b 1 (c' := (if y1 = y2 then 856 else 656, ly_L i, [], M2)) rfl ?_
  rw [if_pos hq]
  exact ly_goto h
set_option maxRecDepth 20000 in
theorem ly_k_ahead {X : nt_X} {i : Nat} {M : nt_M} (hX : X.1 ≤ 3072) (hi : i + 6 ≤ X.1) (hI : ly_Inv M) : ∃ M2, ly_Inv M2 ∧ ∀ o, nt_rn X 100 239 (18, ly_L (i + 6), [], M2) o → nt_rn X 100 239 (658, ly_L i, [], M) o := by
  obtain ⟨y1, M1, y2, M2, e1, e2, hI2, hq, g50⟩ := ly_c_ahead (X := X) (X.2 (i + 1)) (X.2 (i + 2)) (X.2 (i + 3)) hI
  refine ⟨M2, hI2, fun o h => ?_⟩
  refine nt_rn_b 1 (c' := (659, ly_L i, [.ref 0], M)) rfl ?_
  refine ly_push (j := 1) hX (by omega) rfl rfl ?_
  refine ly_push (j := 2) hX (by omega) rfl rfl ?_
  refine ly_push (j := 3) hX (by omega) rfl rfl ?_
  refine nt_rn_c (g := 123) (q := 1) (vs := [.ref 0, .int (X.2 (i + 1)), .int (X.2 (i + 2)), .int (X.2 (i + 3))]) (rest := []) (e := (674, .invokevirtual 90, 123, 0)) rfl rfl (Or.inr (Or.inl ⟨_, rfl, rfl⟩)) rfl (fun _ => ly_rc16 hI) (fun h => by cases h) e1 ?_
  refine nt_rn_b 1 (c' := (678, ly_L i, [], M1)) rfl ?_
  refine nt_rn_b 1 (c' := (679, ly_L i, [.ref 50], M1)) rfl ?_
  refine ly_push (j := 1) hX (by omega) rfl rfl ?_
  refine ly_push (j := 2) hX (by omega) rfl rfl ?_
  refine ly_push (j := 3) hX (by omega) rfl rfl ?_
  refine nt_rn_c (g := 226) (q := 1) (vs := [.ref 50, .int (X.2 (i + 1)), .int (X.2 (i + 2)), .int (X.2 (i + 3))]) (rest := []) (e := (694, .invokevirtual 94, 226, 0)) rfl rfl (Or.inr (Or.inl ⟨_, rfl, rfl⟩)) rfl (fun _ => nt_rcI g50.1 g50.2) (fun h => by cases h) e2 ?_
  refine nt_rn_b 1 (c' := (698, ly_L i, [], M2)) rfl ?_
  refine nt_rn_b 1 (c' := (856, ly_L i, [], M2)) rfl ?_
  exact ly_goto h
set_option maxRecDepth 20000 in
theorem ly_k_seed {X : nt_X} {i : Nat} {M : nt_M} (hX : X.1 ≤ 3072) (hi : i + 6 ≤ X.1) (hI : ly_Inv M) : ∃ M2, ly_Inv M2 ∧ ∀ o, nt_rn X 100 239 (18, ly_L (i + 6), [], M2) o → nt_rn X 100 239 (701, ly_L i, [], M) o := by
  obtain ⟨y1, M1, y2, M2, e1, e2, hI2, hq, g50⟩ := ly_c_seed (X := X) (X.2 (i + 1)) hI
  refine ⟨M2, hI2, fun o h => ?_⟩
  refine nt_rn_b 1 (c' := (702, ly_L i, [.ref 0], M)) rfl ?_
  refine ly_push (j := 1) hX (by omega) rfl rfl ?_
  refine nt_rn_c (g := 124) (q := 1) (vs := [.ref 0, .int (X.2 (i + 1))]) (rest := []) (e := (707, .invokevirtual 95, 124, 0)) rfl rfl (Or.inr (Or.inl ⟨_, rfl, rfl⟩)) rfl (fun _ => ly_rc16 hI) (fun h => by cases h) e1 ?_
  refine nt_rn_b 1 (c' := (711, ly_L i, [], M1)) rfl ?_
  refine nt_rn_b 1 (c' := (712, ly_L i, [.ref 50], M1)) rfl ?_
  refine ly_push (j := 1) hX (by omega) rfl rfl ?_
  refine nt_rn_c (g := 230) (q := 1) (vs := [.ref 50, .int (X.2 (i + 1))]) (rest := []) (e := (717, .invokevirtual 98, 230, 0)) rfl rfl (Or.inr (Or.inl ⟨_, rfl, rfl⟩)) rfl (fun _ => nt_rcI g50.1 g50.2) (fun h => by cases h) e2 ?_
  refine nt_rn_b 1 (c' := (721, ly_L i, [], M2)) rfl ?_
  refine nt_rn_b 1 (c' := (856, ly_L i, [], M2)) rfl ?_
  exact ly_goto h
set_option maxRecDepth 20000 in
theorem ly_k_years {X : nt_X} {i : Nat} {M : nt_M} (hX : X.1 ≤ 3072) (hi : i + 6 ≤ X.1) (hI : ly_Inv M) : ∃ M2, ly_Inv M2 ∧ ∀ o, nt_rn X 100 239 (18, ly_L (i + 6), [], M2) o → nt_rn X 100 239 (724, ly_L i, [], M) o := by
  obtain ⟨y1, M1, y2, M2, e1, e2, hI2, hq, g50⟩ := ly_c_years (X := X) (X.2 (i + 1)) (X.2 (i + 2)) (X.2 (i + 3)) (X.2 (i + 4)) (X.2 (i + 5)) hI
  refine ⟨M2, hI2, fun o h => ?_⟩
  refine nt_rn_b 1 (c' := (725, ly_L i, [.ref 0], M)) rfl ?_
  refine ly_push (j := 1) hX (by omega) rfl rfl ?_
  refine ly_push (j := 2) hX (by omega) rfl rfl ?_
  refine ly_push (j := 3) hX (by omega) rfl rfl ?_
  refine ly_push (j := 4) hX (by omega) rfl rfl ?_
  refine ly_push (j := 5) hX (by omega) rfl rfl ?_
  refine nt_rn_c (g := 125) (q := 1) (vs := [.ref 0, .int (X.2 (i + 1)), .int (X.2 (i + 2)), .int (X.2 (i + 3)), .int (X.2 (i + 4)), .int (X.2 (i + 5))]) (rest := []) (e := (750, .invokevirtual 99, 125, 0)) rfl rfl (Or.inr (Or.inl ⟨_, rfl, rfl⟩)) rfl (fun _ => ly_rc16 hI) (fun h => by cases h) e1 ?_
  refine nt_rn_b 1 (c' := (754, ly_L i, [], M1)) rfl ?_
  refine nt_rn_b 1 (c' := (755, ly_L i, [.ref 50], M1)) rfl ?_
  refine ly_push (j := 1) hX (by omega) rfl rfl ?_
  refine ly_push (j := 2) hX (by omega) rfl rfl ?_
  refine ly_push (j := 3) hX (by omega) rfl rfl ?_
  refine ly_push (j := 4) hX (by omega) rfl rfl ?_
  refine ly_push (j := 5) hX (by omega) rfl rfl ?_
  refine nt_rn_c (g := 231) (q := 1) (vs := [.ref 50, .int (X.2 (i + 1)), .int (X.2 (i + 2)), .int (X.2 (i + 3)), .int (X.2 (i + 4)), .int (X.2 (i + 5))]) (rest := []) (e := (780, .invokevirtual 102, 231, 0)) rfl rfl (Or.inr (Or.inl ⟨_, rfl, rfl⟩)) rfl (fun _ => nt_rcI g50.1 g50.2) (fun h => by cases h) e2 ?_
  refine nt_rn_b 1 (c' := (784, ly_L i, [], M2)) rfl ?_
  refine nt_rn_b 1 (c' := (856, ly_L i, [], M2)) rfl ?_
  exact ly_goto h
set_option maxRecDepth 20000 in
theorem ly_k_count {X : nt_X} {i : Nat} {M : nt_M} (hX : X.1 ≤ 3072) (hi : i + 6 ≤ X.1) (hI : ly_Inv M) : ∃ M2, ly_Inv M2 ∧ ∀ o, nt_rn X 100 239 (18, ly_L (i + 6), [], M2) o → nt_rn X 100 239 (787, ly_L i, [], M) o := by
  obtain ⟨y1, M1, y2, M2, e1, e2, hI2, hq, g50⟩ := ly_c_count (X := X) (X.2 (i + 1)) hI
  refine ⟨M2, hI2, fun o h => ?_⟩
  refine nt_rn_b 1 (c' := (788, ly_L i, [.ref 0], M)) rfl ?_
  refine ly_push (j := 1) hX (by omega) rfl rfl ?_
  refine nt_rn_c (g := 126) (q := 1) (vs := [.ref 0, .int (X.2 (i + 1))]) (rest := []) (e := (793, .invokevirtual 103, 126, 0)) rfl rfl (Or.inr (Or.inl ⟨_, rfl, rfl⟩)) rfl (fun _ => ly_rc16 hI) (fun h => by cases h) e1 ?_
  refine nt_rn_b 1 (c' := (797, ly_L i, [], M1)) rfl ?_
  refine nt_rn_b 1 (c' := (798, ly_L i, [.ref 50], M1)) rfl ?_
  refine ly_push (j := 1) hX (by omega) rfl rfl ?_
  refine nt_rn_c (g := 233) (q := 1) (vs := [.ref 50, .int (X.2 (i + 1))]) (rest := []) (e := (803, .invokevirtual 106, 233, 0)) rfl rfl (Or.inr (Or.inl ⟨_, rfl, rfl⟩)) rfl (fun _ => nt_rcI g50.1 g50.2) (fun h => by cases h) e2 ?_
  refine nt_rn_b 1 (c' := (807, ly_L i, [], M2)) rfl ?_
  refine nt_rn_b 1 (c' := (856, ly_L i, [], M2)) rfl ?_
  exact ly_goto h
set_option maxRecDepth 20000 in
theorem ly_k_image {X : nt_X} {i : Nat} {M : nt_M} (hX : X.1 ≤ 3072) (hi : i + 6 ≤ X.1) (hI : ly_Inv M) : ∃ M2, ly_Inv M2 ∧ ∀ o, nt_rn X 100 239 (18, ly_L (i + 6), [], M2) o → nt_rn X 100 239 (810, ly_L i, [], M) o := by
  obtain ⟨y1, M1, y2, M2, e1, e2, hI2, hq, g50⟩ := ly_c_image (X := X) (X.2 (i + 1)) hI
  refine ⟨M2, hI2, fun o h => ?_⟩
  refine nt_rn_b 1 (c' := (811, ly_L i, [.ref 0], M)) rfl ?_
  refine ly_push (j := 1) hX (by omega) rfl rfl ?_
  refine nt_rn_c (g := 127) (q := 1) (vs := [.ref 0, .int (X.2 (i + 1))]) (rest := []) (e := (816, .invokevirtual 107, 127, 0)) rfl rfl (Or.inr (Or.inl ⟨_, rfl, rfl⟩)) rfl (fun _ => ly_rc16 hI) (fun h => by cases h) e1 ?_
  refine nt_rn_b 1 (c' := (820, ly_L i, [], M1)) rfl ?_
  refine nt_rn_b 1 (c' := (821, ly_L i, [.ref 50], M1)) rfl ?_
  refine ly_push (j := 1) hX (by omega) rfl rfl ?_
  refine nt_rn_c (g := 234) (q := 1) (vs := [.ref 50, .int (X.2 (i + 1))]) (rest := []) (e := (826, .invokevirtual 110, 234, 0)) rfl rfl (Or.inr (Or.inl ⟨_, rfl, rfl⟩)) rfl (fun _ => nt_rcI g50.1 g50.2) (fun h => by cases h) e2 ?_
  refine nt_rn_b 1 (c' := (830, ly_L i, [], M2)) rfl ?_
  refine nt_rn_b 1 (c' := (856, ly_L i, [], M2)) rfl ?_
  exact ly_goto h
set_option maxRecDepth 20000 in
theorem ly_k_back {X : nt_X} {i : Nat} {M : nt_M} (hX : X.1 ≤ 3072) (hi : i + 6 ≤ X.1) (hI : ly_Inv M) : ∃ M2, ly_Inv M2 ∧ ∀ o, nt_rn X 100 239 (18, ly_L (i + 6), [], M2) o → nt_rn X 100 239 (833, ly_L i, [], M) o := by
  obtain ⟨y1, M1, y2, M2, e1, e2, hI2, hq, g50⟩ := ly_c_back (X := X) (X.2 (i + 1)) hI
  refine ⟨M2, hI2, fun o h => ?_⟩
  refine nt_rn_b 1 (c' := (834, ly_L i, [.ref 0], M)) rfl ?_
  refine ly_push (j := 1) hX (by omega) rfl rfl ?_
  refine nt_rn_c (g := 128) (q := 1) (vs := [.ref 0, .int (X.2 (i + 1))]) (rest := []) (e := (839, .invokevirtual 111, 128, 0)) rfl rfl (Or.inr (Or.inl ⟨_, rfl, rfl⟩)) rfl (fun _ => ly_rc16 hI) (fun h => by cases h) e1 ?_
  refine nt_rn_b 1 (c' := (843, ly_L i, [], M1)) rfl ?_
  refine nt_rn_b 1 (c' := (844, ly_L i, [.ref 50], M1)) rfl ?_
  refine ly_push (j := 1) hX (by omega) rfl rfl ?_
  refine nt_rn_c (g := 235) (q := 1) (vs := [.ref 50, .int (X.2 (i + 1))]) (rest := []) (e := (849, .invokevirtual 114, 235, 0)) rfl rfl (Or.inr (Or.inl ⟨_, rfl, rfl⟩)) rfl (fun _ => nt_rcI g50.1 g50.2) (fun h => by cases h) e2 ?_
  refine nt_rn_b 1 (c' := (853, ly_L i, [], M2)) rfl ?_
  refine nt_rn_b 1 (c' := (856, ly_L i, [], M2)) rfl ?_
  exact ly_goto h
set_option maxRecDepth 20000 in
theorem ly_step {X : nt_X} {i : Nat} {M : nt_M} (hRR : sx_KOK X (sx_tbs, sx_gps) kk_w_rread2) (hX : X.1 ≤ 3072) (hi : i + 6 ≤ X.1) (hI : ly_Inv M) : ∃ M2, ly_Inv M2 ∧ ∀ o, nt_rn X 100 239 (18, ly_L (i + 6), [], M2) o → nt_rn X 100 239 (27, ly_L i, [], M) o := by
  have hc := sx_and_ok (x := X.2 i) (y := Int32.ofInt 31) (by decide)
  have e31 : (Int32.ofInt 31).toInt = 31 := by decide
  rw [e31] at hc
  obtain ⟨c, ec, c31⟩ : ∃ c : Nat, X.2 i &&& Int32.ofInt 31 = nI c ∧ c < 32 := ⟨(X.2 i &&& Int32.ofInt 31).toInt.toNat, Int32.toInt_inj.mp (by rw [nI_toInt (by omega)]; omega), by omega⟩
  have head : ∀ o, nt_rn X 100 239 (33, ly_L i, [.int (nI c)], M) o → nt_rn X 100 239 (27, ly_L i, [], M) o := by
    intro o h
    refine nt_rn_b 2 (c' := (29, ly_L i, [.int (nI i), .ref nt_sp], M)) rfl ?_
    refine nt_rn_s (c' := (30, ly_L i, [.int (X.2 i)], M)) (e := (29, .iaload, 0, 0)) rfl rfl ?_ ?_
    · exact ly_ald hX (by omega)
    · refine nt_rn_b 2 (c' := (33, ly_L i, [.int (X.2 i &&& Int32.ofInt 31)], M)) rfl ?_
      rw [ec]
      exact h
  rcases (by omega : c = 0 ∨ c = 1 ∨ c = 2 ∨ c = 3 ∨ c = 4 ∨ c = 5 ∨ c = 6 ∨ c = 7 ∨ c = 8 ∨ c = 9 ∨ c = 10 ∨ c = 11 ∨ c = 12 ∨ c = 13 ∨ c = 14 ∨ c = 15 ∨ c = 16 ∨ c = 17 ∨ c = 18 ∨ c = 19 ∨ c = 20 ∨ c = 21 ∨ c = 22 ∨ c = 23 ∨ c = 24 ∨ c = 25 ∨ c = 26 ∨ c = 27 ∨ c = 28 ∨ c = 29 ∨ c = 30 ∨ c = 31) with rfl | rfl | rfl | rfl | rfl | rfl | rfl | rfl | rfl | rfl | rfl | rfl | rfl | rfl | rfl | rfl | rfl | rfl | rfl | rfl | rfl | rfl | rfl | rfl | rfl | rfl | rfl | rfl | rfl | rfl | rfl | rfl
  · obtain ⟨M2, h1, h2⟩ := ly_k_feed (X := X) (i := i) hX hi hI
    exact ⟨M2, h1, fun o h => head o (nt_rn_b 1 (c' := (144, ly_L i, [], M)) rfl (h2 o h))⟩
  · obtain ⟨M2, h1, h2⟩ := ly_k_end (X := X) (i := i) hX hi hI
    exact ⟨M2, h1, fun o h => head o (nt_rn_b 1 (c' := (207, ly_L i, [], M)) rfl (h2 o h))⟩
  · obtain ⟨M2, h1, h2⟩ := ly_k_yard (X := X) (i := i) hX hi hI
    exact ⟨M2, h1, fun o h => head o (nt_rn_b 1 (c' := (230, ly_L i, [], M)) rfl (h2 o h))⟩
  · obtain ⟨M2, h1, h2⟩ := ly_k_rule (X := X) (i := i) hRR hX hi hI
    exact ⟨M2, h1, fun o h => head o (nt_rn_b 1 (c' := (243, ly_L i, [], M)) rfl (h2 o h))⟩
  · obtain ⟨M2, h1, h2⟩ := ly_k_ship (X := X) (i := i) hX hi hI
    exact ⟨M2, h1, fun o h => head o (nt_rn_b 1 (c' := (256, ly_L i, [], M)) rfl (h2 o h))⟩
  · obtain ⟨M2, h1, h2⟩ := ly_k_plank (X := X) (i := i) hX hi hI
    exact ⟨M2, h1, fun o h => head o (nt_rn_b 1 (c' := (289, ly_L i, [], M)) rfl (h2 o h))⟩
  · obtain ⟨M2, h1, h2⟩ := ly_k_voyage (X := X) (i := i) hX hi hI
    exact ⟨M2, h1, fun o h => head o (nt_rn_b 1 (c' := (322, ly_L i, [], M)) rfl (h2 o h))⟩
  · obtain ⟨M2, h1, h2⟩ := ly_k_move (X := X) (i := i) hX hi hI
    exact ⟨M2, h1, fun o h => head o (nt_rn_b 1 (c' := (355, ly_L i, [], M)) rfl (h2 o h))⟩
  · obtain ⟨M2, h1, h2⟩ := ly_k_days (X := X) (i := i) hX hi hI
    exact ⟨M2, h1, fun o h => head o (nt_rn_b 1 (c' := (388, ly_L i, [], M)) rfl (h2 o h))⟩
  · obtain ⟨M2, h1, h2⟩ := ly_k_lacks (X := X) (i := i) hX hi hI
    exact ⟨M2, h1, fun o h => head o (nt_rn_b 1 (c' := (421, ly_L i, [], M)) rfl (h2 o h))⟩
  · obtain ⟨M2, h1, h2⟩ := ly_k_together (X := X) (i := i) hX hi hI
    exact ⟨M2, h1, fun o h => head o (nt_rn_b 1 (c' := (454, ly_L i, [], M)) rfl (h2 o h))⟩
  · obtain ⟨M2, h1, h2⟩ := ly_k_cut (X := X) (i := i) hX hi hI
    exact ⟨M2, h1, fun o h => head o (nt_rn_b 1 (c' := (477, ly_L i, [], M)) rfl (h2 o h))⟩
  · obtain ⟨M2, h1, h2⟩ := ly_k_most (X := X) (i := i) hX hi hI
    exact ⟨M2, h1, fun o h => head o (nt_rn_b 1 (c' := (510, ly_L i, [], M)) rfl (h2 o h))⟩
  · obtain ⟨M2, h1, h2⟩ := ly_k_willDo (X := X) (i := i) hX hi hI
    exact ⟨M2, h1, fun o h => head o (nt_rn_b 1 (c' := (533, ly_L i, [], M)) rfl (h2 o h))⟩
  · obtain ⟨M2, h1, h2⟩ := ly_k_same (X := X) (i := i) hX hi hI
    exact ⟨M2, h1, fun o h => head o (nt_rn_b 1 (c' := (556, ly_L i, [], M)) rfl (h2 o h))⟩
  · obtain ⟨M2, h1, h2⟩ := ly_k_unlike (X := X) (i := i) hX hi hI
    exact ⟨M2, h1, fun o h => head o (nt_rn_b 1 (c' := (589, ly_L i, [], M)) rfl (h2 o h))⟩
  · obtain ⟨M2, h1, h2⟩ := ly_k_wreck (X := X) (i := i) hX hi hI
    exact ⟨M2, h1, fun o h => head o (nt_rn_b 1 (c' := (602, ly_L i, [], M)) rfl (h2 o h))⟩
  · obtain ⟨M2, h1, h2⟩ := ly_k_dealt (X := X) (i := i) hX hi hI
    exact ⟨M2, h1, fun o h => head o (nt_rn_b 1 (c' := (635, ly_L i, [], M)) rfl (h2 o h))⟩
  · obtain ⟨M2, h1, h2⟩ := ly_k_ahead (X := X) (i := i) hX hi hI
    exact ⟨M2, h1, fun o h => head o (nt_rn_b 1 (c' := (658, ly_L i, [], M)) rfl (h2 o h))⟩
  · obtain ⟨M2, h1, h2⟩ := ly_k_seed (X := X) (i := i) hX hi hI
    exact ⟨M2, h1, fun o h => head o (nt_rn_b 1 (c' := (701, ly_L i, [], M)) rfl (h2 o h))⟩
  · obtain ⟨M2, h1, h2⟩ := ly_k_years (X := X) (i := i) hX hi hI
    exact ⟨M2, h1, fun o h => head o (nt_rn_b 1 (c' := (724, ly_L i, [], M)) rfl (h2 o h))⟩
  · obtain ⟨M2, h1, h2⟩ := ly_k_count (X := X) (i := i) hX hi hI
    exact ⟨M2, h1, fun o h => head o (nt_rn_b 1 (c' := (787, ly_L i, [], M)) rfl (h2 o h))⟩
  · obtain ⟨M2, h1, h2⟩ := ly_k_image (X := X) (i := i) hX hi hI
    exact ⟨M2, h1, fun o h => head o (nt_rn_b 1 (c' := (810, ly_L i, [], M)) rfl (h2 o h))⟩
  · obtain ⟨M2, h1, h2⟩ := ly_k_back (X := X) (i := i) hX hi hI
    exact ⟨M2, h1, fun o h => head o (nt_rn_b 1 (c' := (833, ly_L i, [], M)) rfl (h2 o h))⟩
  · exact ⟨M, hI, fun o h => head o (nt_rn_b 1 (c' := (856, ly_L i, [], M)) rfl (ly_goto h))⟩
  · exact ⟨M, hI, fun o h => head o (nt_rn_b 1 (c' := (856, ly_L i, [], M)) rfl (ly_goto h))⟩
  · exact ⟨M, hI, fun o h => head o (nt_rn_b 1 (c' := (856, ly_L i, [], M)) rfl (ly_goto h))⟩
  · exact ⟨M, hI, fun o h => head o (nt_rn_b 1 (c' := (856, ly_L i, [], M)) rfl (ly_goto h))⟩
  · exact ⟨M, hI, fun o h => head o (nt_rn_b 1 (c' := (856, ly_L i, [], M)) rfl (ly_goto h))⟩
  · exact ⟨M, hI, fun o h => head o (nt_rn_b 1 (c' := (856, ly_L i, [], M)) rfl (ly_goto h))⟩
  · exact ⟨M, hI, fun o h => head o (nt_rn_b 1 (c' := (856, ly_L i, [], M)) rfl (ly_goto h))⟩
  · exact ⟨M, hI, fun o h => head o (nt_rn_b 1 (c' := (856, ly_L i, [], M)) rfl (ly_goto h))⟩
set_option maxRecDepth 20000 in
theorem ly_cmp {X : nt_X} {i : Nat} {M : nt_M} {o : Option Value × nt_M} (hX : X.1 ≤ 3072) (hi : i < 100000) (k : nt_rn X 100 239 (if i + 6 ≤ X.1 then 27 else 862, ly_L i, [], M) o) : nt_rn X 100 239 (18, ly_L i, [], M) o := by
  refine nt_rn_b 3 (c' := (21, ly_L i, [.int (Int32.ofNat X.1), .int (nI i)], M)) rfl ?_
  refine nt_rn_b 3 (c' := (if Int32.ofNat X.1 - Int32.ofInt 6 < nI i then 862 else 27, ly_L i, [], M)) rfl ?_
  have e : (Int32.ofNat X.1 - Int32.ofInt 6).toInt = (X.1 : Int) - 6 := by
    rw [show Int32.ofNat X.1 = nI X.1 from rfl, Int32.toInt_sub, nI_toInt (by omega), show (Int32.ofInt 6).toInt = 6 from by decide, Int.bmod_eq_of_le (by omega) (by omega)]
  by_cases h : i + 6 ≤ X.1
  · rw [if_pos h] at k
    rw [if_neg (by rw [sx_lt32, e, nI_toInt (by omega)]; omega)]
    exact k
  · rw [if_neg h] at k
    rw [if_pos (by rw [sx_lt32, e, nI_toInt (by omega)]; omega)]
    exact k
set_option maxRecDepth 20000 in
theorem ly_loop {X : nt_X} (hRR : sx_KOK X (sx_tbs, sx_gps) kk_w_rread2) (hX : X.1 ≤ 3072) : ∀ (m i : Nat) (M : nt_M), X.1 ≤ i + m → i ≤ X.1 + 6 → ly_Inv M → ∃ M', nt_rn X 100 239 (18, ly_L i, [], M) (some (.int 1), M') ∧ ly_Inv M' := by
  intro m
  have fin : ∀ (i : Nat) (M : nt_M), i ≤ X.1 + 6 → ¬ i + 6 ≤ X.1 → ly_Inv M → ∃ M', nt_rn X 100 239 (18, ly_L i, [], M) (some (.int 1), M') ∧ ly_Inv M' := by
    intro i M hi h hI
    refine ⟨M, ly_cmp hX (by omega) ?_, hI⟩
    rw [if_neg h]
    refine nt_rn_b 1 (c' := (863, ly_L i, [.int (Int32.ofInt 1)], M)) rfl ?_
    exact nt_rn_rz (e := (863, .ireturn, 0, 0)) rfl rfl rfl (Or.inr rfl) rfl rfl
  induction m with
  | zero =>
    intro i M h1 h2 hI
    exact fin i M h2 (by omega) hI
  | succ m ih =>
    intro i M h1 h2 hI
    by_cases h : i + 6 ≤ X.1
    · obtain ⟨M2, hI2, hs⟩ := ly_step hRR hX h hI
      obtain ⟨M', r, hI'⟩ := ih (i + 6) M2 (by omega) (by omega) hI2
      exact ⟨M', ly_cmp hX (by omega) (by rw [if_pos h]; exact hs _ r), hI'⟩
    · exact fin i M h2 h hI
set_option maxRecDepth 20000 in
theorem ly_pure (hRR : ∀ X, sx_KOK X (sx_tbs, sx_gps) kk_w_rread2) (L : Nat) (xs : Nat → Int32) (hL : L ≤ 3072) : nt_Pure L xs := by
  obtain ⟨M0, hM0, hB0, hS0⟩ := ly_init2
  obtain ⟨M', hr, hI'⟩ := ly_loop (X := (L, xs)) (hRR _) hL L 0 M0 (by show L ≤ 0 + L; omega) (by omega) ⟨ly_p0, fun _ => 0, hB0, hS0, rfl, lq_E0 hM0, zz_E0 hM0 hB0 hS0⟩
  have hn : nt_n nt_M0 = 0 := rfl
  have hb : 0 + 100 < nt_sp := by decide
  have hrun : nt_rn (L, xs) 100 239 (0, [(0, .ref nt_sp)], [], nt_M0) (some (.int 1), M') := by
    refine nt_rn_s (c' := (3, [(0, .ref nt_sp)], [.ref (0 + 0)], ly_fo 0 nt_M0 (ly_io.drop 131))) (e := (0, .new 7, 10, 0)) rfl rfl (ly_x_new (c := 0 + 0) rfl (by decide) (by decide)) ?_
    refine nt_rn_b 1 (c' := (4, [(0, .ref nt_sp)], [.ref (0 + 0), .ref (0 + 0)], ly_fo 0 nt_M0 (ly_io.drop 131))) rfl ?_
    refine nt_rn_c (g := 101) (q := 2) (vs := [.ref (0 + 0)]) (rest := [.ref (0 + 0)]) (e := (4, .invokespecial 9, 101, 0)) rfl rfl (Or.inr (Or.inr ⟨_, rfl, rfl⟩)) rfl (fun h => by cases h) (fun _ => rfl) (ly_i11 hn hb) ?_
    refine nt_rn_b 1 (c' := (8, [(1, .ref 0), (0, .ref nt_sp)], [], ly_fo 0 nt_M0 (ly_io.drop 31))) rfl ?_
    refine nt_rn_s (c' := (11, [(1, .ref 0), (0, .ref nt_sp)], [.ref (0 + 50)], ly_fo 0 nt_M0 (ly_io.drop 30))) (e := (8, .new 10, 11, 0)) rfl rfl (ly_x_new (c := 0 + 50) (by rw [ly_fo_n, hn]; rfl) (by decide) (by decide)) ?_
    refine nt_rn_b 1 (c' := (12, [(1, .ref 0), (0, .ref nt_sp)], [.ref (0 + 50), .ref (0 + 50)], ly_fo 0 nt_M0 (ly_io.drop 30))) rfl ?_
    refine nt_rn_c (g := 129) (q := 2) (vs := [.ref (0 + 50)]) (rest := [.ref (0 + 50)]) (e := (12, .invokespecial 12, 129, 0)) rfl rfl (Or.inr (Or.inr ⟨_, rfl, rfl⟩)) rfl (fun h => by cases h) (fun _ => rfl) (ly_i12 hn hb) ?_
    refine nt_rn_b 3 (c' := (18, [(3, .int (Int32.ofInt 0)), (2, .ref 50), (1, .ref 0), (0, .ref nt_sp)], [], ly_fo 0 nt_M0 ly_io)) rfl ?_
    rw [← hM0]
    exact hr
  obtain ⟨f, hf⟩ := hrun
  obtain ⟨pl, v, hB, hS, _⟩ := hI'
  obtain ⟨_, ⟨p5, p6⟩, T, p7, p8⟩ := hS
  have hv2 := ly_ob hB (2, 0, 6) (List.mem_of_getElem? (i := 2) rfl)
  dsimp only at hv2 p5 p6
  have mk01 : ∀ i, i < 4 → 0 ≤ v (3 + i) ∧ v (3 + i) ≤ 1 := by
    intro i hi
    rcases p7 i hi with ⟨_, c⟩ | ⟨a, _, c, _⟩ <;> dsimp only at c <;> omega
  have m0 := mk01 0 (by omega)
  have m1 := mk01 1 (by omega)
  have m2 := mk01 2 (by omega)
  have m3 := mk01 3 (by omega)
  exact ⟨f, 100, M', by omega, hf, by omega, by omega⟩
