def kk_isInside : sx_K := (165, 0, [(11, 0, 0, 9), (13, 2400, 2400, 0), (13, 288, 288, 0), (13, 6, 6, 14), (13, 212, 212, 10), (14, 64, 64, 0), (14, 10, 10, 0), (13, 212, 212, 10), (12, 400, 400, 0), (13, 400, 400, 0), (13, 7, 7, 13), (13, 24, 24, 0), (13, 72, 72, 11), (13, 32, 32, 12), (13, 848, 848, 16), (15, 4, 4, 0)], ([], []), [(2, 0, (0, []))], ([((0, (23, [])), (0, [(0, 1)])), ((102, (0, [(0, 1)])), (0, [(1, 1)])), ((104, (0, [(0, 1)])), (0, [(2, 1)]))], [((0, (3, [])), 2), ((0, (5, [])), 3), ((0, (6, [])), 4), ((0, (27, [])), 5), ((0, (24, [])), 6), ((0, (26, [])), 7), ((0, (28, [])), 8), ((0, (0, [])), 9), ((0, (22, [])), 10), ((0, (4, [])), 11), ((0, (12, [])), 12), ((0, (13, [])), 13), ((0, (14, [])), 14), ((0, (29, [])), 15), ((0, (30, [])), 16)], ([(0, 0, 400), (1, 0, 400), (2, 0, 400)], []), 3), [(some (0, 0, (0, [])), ([], [], ([], [(0, [(2, (-1))])]), 3)), (some (0, 0, (1, [])), ([], [], ([], [((-1), [(2, 1)])]), 3))])
theorem kw_ob {a : Nat → Int32} : ∀ (n : Nat) (q : Nat × Nat), nt_ob a n = some q → ((∀ j, j < n → a j ≠ 91) → q.2 = 0) ∧ ((∃ j, j < n ∧ a j = 91) → 1 ≤ q.2)
  | 0, q, h => by
    cases h
    exact ⟨fun _ => rfl, fun ⟨j, hj, _⟩ => by omega⟩
  | n + 1, q, h => by
    unfold nt_ob at h
    split at h
    · cases h
    · rename_i p hp
      obtain ⟨i1, i2⟩ := kw_ob n p hp
      have old : (∃ j, j < n + 1 ∧ a j = 91) → a n ≠ 91 → ∃ j, j < n ∧ a j = 91 := fun ⟨j, hj, e⟩ hn => ⟨j, by
        by_cases k : j = n
        · rw [k] at e; exact absurd e hn
        · omega, e⟩
      by_cases c1 : a n = 12 ∨ a n = 13
      · rw [if_pos c1] at h
        cases h
        have hn : a n ≠ 91 := fun e => by rw [e] at c1; revert c1; decide
        exact ⟨fun k => i1 (fun j hj => k j (by omega)), fun k => i2 (old k hn)⟩
      · rw [if_neg c1] at h
        by_cases c2 : a n = 11
        · rw [if_pos c2] at h
          cases h
          have hn : a n ≠ 91 := fun e => by rw [e] at c2; revert c2; decide
          exact ⟨fun k => i1 (fun j hj => k j (by omega)), fun k => i2 (old k hn)⟩
        · rw [if_neg c2] at h
          by_cases c3 : a n = 91
          · rw [if_pos c3] at h
            cases h
            exact ⟨fun k => absurd c3 (k n (by omega)), fun _ => by show 1 ≤ p.2 + 1; omega⟩
          · rw [if_neg c3] at h
            cases h
theorem kw_run {X : nt_X} {d : Nat} {M : nt_M} {B Op o : Nat} (hn : nt_n M ≤ nt_sp) (hB : B < nt_n M) (kB : nt_k M B = 11) (hO : Op < nt_n M) (kO : nt_k M Op = 13) (lO : nt_l M Op = 400) (rO : nt_R M B 22 = some Op) (ho : nt_I M B 23 = nI o) (o4 : o ≤ 400) : ∀ (n k : Nat), k + n = o → (∀ j, j < k → nt_I M Op j ≠ 91) → (nt_rn X d 165 (2, [(1, .int (nI k)), (0, .ref B)], [], M) (some (.int 1), M) ∧ ∃ j, j < o ∧ nt_I M Op j = 91) ∨ (nt_rn X d 165 (2, [(1, .int (nI k)), (0, .ref B)], [], M) (some (.int 0), M) ∧ ∀ j, j < o → nt_I M Op j ≠ 91) := by
  intro n
  have head : ∀ (k : Nat) (r : Option Value × nt_M), nt_rn X d 165 (if nI o ≤ nI k then 29 else 10, [(1, .int (nI k)), (0, .ref B)], [], M) r → nt_rn X d 165 (2, [(1, .int (nI k)), (0, .ref B)], [], M) r := by
    intro k r h
    refine nt_rn_b 2 (c' := (4, [(1, .int (nI k)), (0, .ref B)], [.ref B, .int (nI k)], M)) rfl ?_
    refine nt_rn_s (e := (4, .getfield 130, 1123, 0)) rfl rfl (nt_x_get (c := 11) (v := .int (nt_I M B 23)) hB kB rfl rfl) ?_
    rw [ho]
    exact nt_rn_b 1 (c' := (if nI o ≤ nI k then 29 else 10, [(1, .int (nI k)), (0, .ref B)], [], M)) rfl h
  induction n with
  | zero =>
    intro k hk hj
    refine Or.inr ⟨head k _ ?_, fun j h => hj j (by omega)⟩
    rw [if_pos (nI_le (by omega) (by omega))]
    refine nt_rn_b 1 (c' := (30, [(1, .int (nI k)), (0, .ref B)], [.int 0], M)) rfl ?_
    exact nt_rn_rz (e := (30, .ireturn, 0, 0)) rfl rfl rfl (Or.inl rfl) rfl rfl
  | succ n ih =>
    intro k hk hj
    have step : ∀ r, nt_rn X d 165 (if nt_I M Op k = Int32.ofInt 91 then 21 else 23, [(1, .int (nI k)), (0, .ref B)], [], M) r → nt_rn X d 165 (2, [(1, .int (nI k)), (0, .ref B)], [], M) r := by
      intro r h
      refine head k _ ?_
      rw [if_neg (nI_ge (by omega) (by omega))]
      refine nt_rn_b 1 (c' := (11, [(1, .int (nI k)), (0, .ref B)], [.ref B], M)) rfl ?_
      refine nt_rn_s (e := (11, .getfield 35, 1122, 0)) rfl rfl (nt_x_get (c := 11) (v := .ref Op) hB kB rfl (nt_gfR rfl rO)) ?_
      refine nt_rn_b 1 (c' := (15, [(1, .int (nI k)), (0, .ref B)], [.int (nI k), .ref Op], M)) rfl ?_
      refine nt_rn_s (e := (15, .iaload, 0, 0)) rfl rfl (nt_x_iald (i := k) hO kO hn rfl (by rw [lO]; omega) (by rw [lO]; omega)) ?_
      exact nt_rn_b 2 (c' := (if nt_I M Op k = Int32.ofInt 91 then 21 else 23, [(1, .int (nI k)), (0, .ref B)], [], M)) rfl h
    by_cases e : nt_I M Op k = 91
    · refine Or.inl ⟨step _ ?_, k, by omega, e⟩
      rw [if_pos (show nt_I M Op k = Int32.ofInt 91 from e)]
      refine nt_rn_b 1 (c' := (22, [(1, .int (nI k)), (0, .ref B)], [.int 1], M)) rfl ?_
      exact nt_rn_rz (e := (22, .ireturn, 0, 0)) rfl rfl rfl (Or.inr rfl) rfl rfl
    · have go : ∀ r, nt_rn X d 165 (2, [(1, .int (nI (k + 1))), (0, .ref B)], [], M) r → nt_rn X d 165 (2, [(1, .int (nI k)), (0, .ref B)], [], M) r := by
        intro r h
        refine step _ ?_
        rw [if_neg (show ¬ nt_I M Op k = Int32.ofInt 91 from e)]
        refine nt_rn_b 2 (c' := (2, [(1, .int (nI k + Int32.ofInt 1)), (0, .ref B)], [], M)) rfl ?_
        rw [show nI k + Int32.ofInt 1 = nI (k + 1) from nI_1 k]
        exact h
      have hj' : ∀ j, j < k + 1 → nt_I M Op j ≠ 91 := fun j h => by
        by_cases q : j = k
        · rw [q]; exact e
        · exact hj j (by omega)
      rcases ih (k + 1) (by omega) hj' with ⟨h1, h2⟩ | ⟨h1, h2⟩
      · exact Or.inl ⟨go _ h1, h2⟩
      · exact Or.inr ⟨go _ h1, h2⟩
theorem kw_g2 {p : Nat → Nat → Int32} {i : Int} : nt_ghost 2 p i = (match nt_ob (p 9) i.toNat with | some q => (q.1 : Int) | none => -1) := by
  unfold nt_ghost
  rw [if_neg (by decide), if_neg (by decide), if_pos rfl]
  rfl
theorem kw_g4 {p : Nat → Nat → Int32} {i : Int} : nt_ghost 4 p i = (match nt_ob (p 9) i.toNat with | some q => (q.2 : Int) | none => -1) := by
  unfold nt_ghost
  rw [if_neg (by decide), if_neg (by decide), if_neg (by decide), if_pos rfl]
  rfl
theorem ko_isInside (X : nt_X) : sx_KOK X (sx_tbs, sx_gps) kk_isInside := by
  intro F r vs M d hd hM hr hG hargs hon
  obtain ⟨v0, u0, rfl, rfl, ha⟩ := sx_os_c hargs
  cases u0 with
  | cons _ _ => exact ha.elim
  | nil =>
  have hgh : F.2.2.2 = nt_ghost := hG
  have hoi := hon.2.2.1
  have hob := hon.2.2.2.2.1.1
  have b0 := hob (0, 0, 400) (List.Mem.head _)
  have b1 := hob (1, 0, 400) (List.Mem.tail _ (List.Mem.head _))
  dsimp only at b0 b1
  have k0 := (hoi ((0, (23, [])), (0, [(0, 1)])) (List.Mem.head _)).2
  have k1 := (hoi ((102, (0, [(0, 1)])), (0, [(1, 1)])) (List.Mem.tail _ (List.Mem.head _))).2
  have k2 := (hoi ((104, (0, [(0, 1)])), (0, [(2, 1)])) (List.Mem.tail _ (List.Mem.tail _ (List.Mem.head _)))).2
  dsimp only at k0 k1 k2
  rw [sx_c_e, sx_s_e] at k0
  rw [sx_s_e, sx_s_e] at k1 k2
  unfold sx_rd at k0 k1 k2
  rw [if_neg (by decide), if_neg (by decide)] at k0
  rw [if_pos (by decide), hgh, show (102 - 100 : Nat) = 2 from rfl, kw_g2] at k1
  rw [if_pos (by decide), hgh, show (104 - 100 : Nat) = 4 from rfl, kw_g4] at k2
  obtain ⟨o, eo⟩ : ∃ o : Nat, r 0 = (o : Int) := ⟨(r 0).toNat, by omega⟩
  rw [eo] at k0 k1 k2 b0
  rw [show ((o : Int)).toNat = o from by omega] at k1 k2
  have g0 := hon.2.1.2 0 _ (show (sx_KE (sx_tbs, sx_gps) kk_isInside).2.1[0]? = some (11, 0, 0, 9) from rfl)
  have g9 := hon.2.1.2 9 _ (show (sx_KE (sx_tbs, sx_gps) kk_isInside).2.1[9]? = some (13, 400, 400, 0) from rfl)
  have rO := (hon.2.2.2.1 ((0, (22, [])), 10) (List.mem_of_getElem? (i := 8) rfl)).2.2
  dsimp only at rO
  rw [sx_c_e] at rO
  have rO : nt_R M (F.1 0) 22 = some (F.1 9) := rO
  have ho : nt_I M (F.1 0) 23 = nI o := Int32.toInt_inj.mp (by rw [nI_toInt (by omega)]; exact k0)
  cases hob2 : nt_ob (fun j => nt_I M (F.1 9) j) o with
  | none =>
    rw [hob2] at k1
    dsimp only at k1
    omega
  | some q =>
    rw [hob2] at k2
    dsimp only at k2
    obtain ⟨w1, w2⟩ := kw_ob o q hob2
    have fin : ∀ cs : List sx_L, (∀ C ∈ cs, 0 ≤ sx_e r C) → sx_on (sx_KE (sx_tbs, sx_gps) kk_isInside) F r ([], [], ([], cs), 3) M := fun cs hc => ⟨hon.1, hon.2.1, fun q hq => (by cases hq), fun q hq => (by cases hq), ⟨fun q hq => (by cases hq), hc⟩, hon.2.2.2.2.2.1, hon.2.2.2.2.2.2⟩
    rcases kw_run (X := X) (d := d) hon.2.1.1 g0.1 g0.2.1 g9.1 g9.2.1 (by have := g9.2.2.1; dsimp only at this; omega) rO ho (by omega) o 0 (by omega) (fun j h => by omega) with ⟨h1, h2⟩ | ⟨h1, h2⟩
    · refine ⟨(some (.int 1), M), nt_rn_b 2 (c' := (2, [(1, .int (nI 0)), (0, .ref (F.1 0))], [], M)) rfl h1, _, List.Mem.tail _ (List.Mem.head _), r, ⟨1, rfl, (sx_c_e r 1).symm⟩, fin _ fun C hC => ?_⟩
      have := w2 h2
      rw [List.mem_singleton.mp hC]
      show (0 : Int) ≤ -1 + (1 * r 2 + 0)
      omega
    · refine ⟨(some (.int 0), M), nt_rn_b 2 (c' := (2, [(1, .int (nI 0)), (0, .ref (F.1 0))], [], M)) rfl h1, _, List.Mem.head _, r, ⟨0, rfl, (sx_c_e r 0).symm⟩, fin _ fun C hC => ?_⟩
      have := w1 h2
      rw [List.mem_singleton.mp hC]
      show (0 : Int) ≤ 0 + (-1 * r 2 + 0)
      omega
