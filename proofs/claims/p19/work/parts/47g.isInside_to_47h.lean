section
def kk_isInside : sx_K := (165, 0, [(11, 0, 0, 9), (13, 2400, 2400, 0), (13, 288, 288, 0), (13, 6, 6, 14), (13, 212, 212, 10), (14, 64, 64, 0), (14, 10, 10, 0), (13, 212, 212, 10), (12, 400, 400, 0), (13, 400, 400, 0), (13, 7, 7, 13), (13, 24, 24, 0), (13, 72, 72, 11), (13, 32, 32, 12), (13, 848, 848, 16), (15, 4, 4, 0)], ([], []), [(2, 0, (0, []))], ([((0, (23, [])), (0, [(0, 1)])), ((102, (0, [(0, 1)])), (0, [(1, 1)])), ((104, (0, [(0, 1)])), (0, [(2, 1)]))], [((0, (3, [])), 2), ((0, (5, [])), 3), ((0, (6, [])), 4), ((0, (27, [])), 5), ((0, (24, [])), 6), ((0, (26, [])), 7), ((0, (28, [])), 8), ((0, (0, [])), 9), ((0, (22, [])), 10), ((0, (4, [])), 11), ((0, (12, [])), 12), ((0, (13, [])), 13), ((0, (14, [])), 14), ((0, (29, [])), 15), ((0, (30, [])), 16)], ([(0, 0, 400), (1, 0, 400), (2, 0, 400)], []), 3), [(some (0, 0, (0, [])), ([], [], ([], [(0, [(2, (-1))])]), 3)), (some (0, 0, (1, [])), ([], [], ([], [((-1), [(2, 1)])]), 3))])
theorem kw_ob {a : Nat → Int32} : ∀ (n : Nat) (q : Nat × Nat), nt_ob a n = some q → ((∀ j, j < n → a j ≠ 91) → q.2 = 0) ∧ ((∃ j, j < n ∧ a j = 91) → 1 ≤ q.2)
  | 0, q, h => by
    cases h
    exact ⟨fun _ => rfl, fun ⟨j, hj, _⟩ => by omega⟩
  | n + 1, q, h => by
    unfold nt_ob at h
    split at h
    · cases h
    · rename_i p hp
      obtain ⟨i1, i2⟩ := kw_ob n p hp
      have old : (∃ j, j < n + 1 ∧ a j = 91) → a n ≠ 91 → ∃ j, j < n ∧ a j = 91 := fun ⟨j, hj, e⟩ hn => ⟨j, by
        by_cases k : j = n
        · rw [k] at e; exact absurd e hn
        · omega, e⟩
      by_cases c1 : a n = 12 ∨ a n = 13
      · rw [if_pos c1] at h
        cases h
        have hn : a n ≠ 91 := fun e => by rw [e] at c1; revert c1; decide
        exact ⟨fun k => i1 (fun j hj => k j (by omega)), fun k => i2 (old k hn)⟩
      · rw [if_neg c1] at h
        by_cases c2 : a n = 11
        · rw [if_pos c2] at h
          cases h
          have hn : a n ≠ 91 := fun e => by rw [e] at c2; revert c2; decide
          exact ⟨fun k => i1 (fun j hj => k j (by omega)), fun k => i2 (old k hn)⟩
        · rw [if_neg c2] at h
          by_cases c3 : a n = 91
          · rw [if_pos c3] at h
            cases h
            exact ⟨fun k => absurd c3 (k n (by omega)), fun _ => by show 1 ≤ p.2 + 1; omega⟩
          · rw [if_neg c3] at h
            cases h
theorem kw_run {X : nt_X} {d : Nat} {M : nt_M} {B Op o : Nat} (hn : nt_n M ≤ nt_sp) (hB : B < nt_n M) (kB : nt_k M B = 11) (hO : Op < nt_n M) (kO : nt_k M Op = 13) (lO : nt_l M Op = 400) (rO : nt_R M B 22 = some Op) (ho : nt_I M B 23 = nI o) (o4 : o ≤ 400) : ∀ (n k : Nat), k + n = o → (∀ j, j < k → nt_I M Op j ≠ 91) → (nt_rn X d 165 (2, [(1, .int (nI k)), (0, .ref B)], [], M) (some (.int 1), M) ∧ ∃ j, j < o ∧ nt_I M Op j = 91) ∨ (nt_rn X d 165 (2, [(1, .int (nI k)), (0, .ref B)], [], M) (some (.int 0), M) ∧ ∀ j, j < o → nt_I M Op j ≠ 91) := by
  intro n
  have head : ∀ (k : Nat) (r : Option Value × nt_M), nt_rn X d 165 (if nI o ≤ nI k then 29 else 10, [(1, .int (nI k)), (0, .ref B)], [], M) r → nt_rn X d 165 (2, [(1, .int (nI k)), (0, .ref B)], [], M) r := by
    intro k r h
    refine nt_rn_b 2 (c' := (4, [(1, .int (nI k)), (0, .ref B)], [.ref B, .int (nI k)], M)) rfl ?_
    refine nt_rn_s (e := (4, .getfield 130, 1123, 0)) rfl rfl (nt_x_get (c := 11) (v := .int (nt_I M B 23)) hB kB rfl rfl) ?_
    rw [ho]
    exact nt_rn_b 1 (c' := (if nI o ≤ nI k then 29 else 10, [(1, .int (nI k)), (0, .ref B)], [], M)) rfl h
  induction n with
  | zero =>
    intro k hk hj
    refine Or.inr ⟨head k _ ?_, fun j h => hj j (by omega)⟩
    rw [if_pos (nI_le (by omega) (by omega))]
    refine nt_rn_b 1 (c' := (30, [(1, .int (nI k)), (0, .ref B)], [.int 0], M)) rfl ?_
    exact nt_rn_rz (e := (30, .ireturn, 0, 0)) rfl rfl rfl (Or.inl rfl) rfl rfl
  | succ n ih =>
    intro k hk hj
    have step : ∀ r, nt_rn X d 165 (if nt_I M Op k = Int32.ofInt 91 then 21 else 23, [(1, .int (nI k)), (0, .ref B)], [], M) r → nt_rn X d 165 (2, [(1, .int (nI k)), (0, .ref B)], [], M) r := by
      intro r h
      refine head k _ ?_
      rw [if_neg (nI_ge (by omega) (by omega))]
      refine nt_rn_b 1 (c' := (11, [(1, .int (nI k)), (0, .ref B)], [.ref B], M)) rfl ?_
      refine nt_rn_s (e := (11, .getfield 35, 1122, 0)) rfl rfl (nt_x_get (c := 11) (v := .ref Op) hB kB rfl (nt_gfR rfl rO)) ?_
      refine nt_rn_b 1 (c' := (15, [(1, .int (nI k)), (0, .ref B)], [.int (nI k), .ref Op], M)) rfl ?_
      refine nt_rn_s (e := (15, .iaload, 0, 0)) rfl rfl (nt_x_iald (i := k) hO kO hn rfl (by rw [lO]; omega) (by rw [lO]; omega)) ?_
      exact nt_rn_b 2 (c' := (if nt_I M Op k = Int32.ofInt 91 then 21 else 23, [(1, .int (nI k)), (0, .ref B)], [], M)) rfl h
    by_cases e : nt_I M Op k = 91
    · refine Or.inl ⟨step _ ?_, k, by omega, e⟩
      rw [if_pos (show nt_I M Op k = Int32.ofInt 91 from e)]
      refine nt_rn_b 1 (c' := (22, [(1, .int (nI k)), (0, .ref B)], [.int 1], M)) rfl ?_
      exact nt_rn_rz (e := (22, .ireturn, 0, 0)) rfl rfl rfl (Or.inr rfl) rfl rfl
    · have go : ∀ r, nt_rn X d 165 (2, [(1, .int (nI (k + 1))), (0, .ref B)], [], M) r → nt_rn X d 165 (2, [(1, .int (nI k)), (0, .ref B)], [], M) r := by
        intro r h
        refine step _ ?_
        rw [if_neg (show ¬ nt_I M Op k = Int32.ofInt 91 from e)]
        refine nt_rn_b 2 (c' := (2, [(1, .int (nI k + Int32.ofInt 1)), (0, .ref B)], [], M)) rfl ?_
        rw [show nI k + Int32.ofInt 1 = nI (k + 1) from nI_1 k]
        exact h
      have hj' : ∀ j, j < k + 1 → nt_I M Op j ≠ 91 := fun j h => by
        by_cases q : j = k
        · rw [q]; exact e
        · exact hj j (by omega)
      rcases ih (k + 1) (by omega) hj' with ⟨h1, h2⟩ | ⟨h1, h2⟩
      · exact Or.inl ⟨go _ h1, h2⟩
      · exact Or.inr ⟨go _ h1, h2⟩
theorem kw_g2 {p : Nat → Nat → Int32} {i : Int} : nt_ghost 2 p i = (match nt_ob (p 9) i.toNat with | some q => (q.1 : Int) | none => -1) := by
  unfold nt_ghost
  rw [if_neg (by decide), if_neg (by decide), if_pos rfl]
  rfl
theorem kw_g4 {p : Nat → Nat → Int32} {i : Int} : nt_ghost 4 p i = (match nt_ob (p 9) i.toNat with | some q => (q.2 : Int) | none => -1) := by
  unfold nt_ghost
  rw [if_neg (by decide), if_neg (by decide), if_neg (by decide), if_pos rfl]
  rfl
theorem ko_isInside (X : nt_X) : sx_KOK X (sx_tbs, sx_gps) kk_isInside := by
  intro F r vs M d hd hM hr hG hargs hon
  obtain ⟨v0, u0, rfl, rfl, ha⟩ := sx_os_c hargs
  cases u0 with
  | cons _ _ => exact ha.elim
  | nil =>
  have hgh : F.2.2.2 = nt_ghost := hG
  have hoi := hon.2.2.1
  have hob := hon.2.2.2.2.1.1
  have b0 := hob (0, 0, 400) (List.Mem.head _)
  have b1 := hob (1, 0, 400) (List.Mem.tail _ (List.Mem.head _))
  dsimp only at b0 b1
  have k0 := (hoi ((0, (23, [])), (0, [(0, 1)])) (List.Mem.head _)).2
  have k1 := (hoi ((102, (0, [(0, 1)])), (0, [(1, 1)])) (List.Mem.tail _ (List.Mem.head _))).2
  have k2 := (hoi ((104, (0, [(0, 1)])), (0, [(2, 1)])) (List.Mem.tail _ (List.Mem.tail _ (List.Mem.head _)))).2
  dsimp only at k0 k1 k2
  rw [sx_c_e, sx_s_e] at k0
  rw [sx_s_e, sx_s_e] at k1 k2
  unfold sx_rd at k0 k1 k2
  rw [if_neg (by decide), if_neg (by decide)] at k0
  rw [if_pos (by decide), hgh, show (102 - 100 : Nat) = 2 from rfl, kw_g2] at k1
  rw [if_pos (by decide), hgh, show (104 - 100 : Nat) = 4 from rfl, kw_g4] at k2
  obtain ⟨o, eo⟩ : ∃ o : Nat, r 0 = (o : Int) := ⟨(r 0).toNat, by omega⟩
  rw [eo] at k0 k1 k2 b0
  rw [show ((o : Int)).toNat = o from by omega] at k1 k2
  have g0 := hon.2.1.2 0 _ (show (sx_KE (sx_tbs, sx_gps) kk_isInside).2.1[0]? = some (11, 0, 0, 9) from rfl)
  have g9 := hon.2.1.2 9 _ (show (sx_KE (sx_tbs, sx_gps) kk_isInside).2.1[9]? = some (13, 400, 400, 0) from rfl)
  have rO := (hon.2.2.2.1 ((0, (22, [])), 10) (List.mem_of_getElem? (i := 8) rfl)).2.2
  dsimp only at rO
  rw [sx_c_e] at rO
  have rO : nt_R M (F.1 0) 22 = some (F.1 9) := rO
  have ho : nt_I M (F.1 0) 23 = nI o := Int32.toInt_inj.mp (by rw [nI_toInt (by omega)]; exact k0)
  cases hob2 : nt_ob (fun j => nt_I M (F.1 9) j) o with
  | none =>
    rw [hob2] at k1
    dsimp only at k1
    omega
  | some q =>
    rw [hob2] at k2
    dsimp only at k2
    obtain ⟨w1, w2⟩ := kw_ob o q hob2
    have fin : ∀ cs : List sx_L, (∀ C ∈ cs, 0 ≤ sx_e r C) → sx_on (sx_KE (sx_tbs, sx_gps) kk_isInside) F r ([], [], ([], cs), 3) M := fun cs hc => ⟨hon.1, hon.2.1, fun q hq => (by cases hq), fun q hq => (by cases hq), ⟨fun q hq => (by cases hq), hc⟩, hon.2.2.2.2.2.1, hon.2.2.2.2.2.2⟩
    rcases kw_run (X := X) (d := d) hon.2.1.1 g0.1 g0.2.1 g9.1 g9.2.1 (by have := g9.2.2.1; dsimp only at this; omega) rO ho (by omega) o 0 (by omega) (fun j h => by omega) with ⟨h1, h2⟩ | ⟨h1, h2⟩
    · refine ⟨(some (.int 1), M), nt_rn_b 2 (c' := (2, [(1, .int (nI 0)), (0, .ref (F.1 0))], [], M)) rfl h1, _, List.Mem.tail _ (List.Mem.head _), r, ⟨1, rfl, (sx_c_e r 1).symm⟩, fin _ fun C hC => ?_⟩
      have := w2 h2
      rw [List.mem_singleton.mp hC]
      show (0 : Int) ≤ -1 + (1 * r 2 + 0)
      omega
    · refine ⟨(some (.int 0), M), nt_rn_b 2 (c' := (2, [(1, .int (nI 0)), (0, .ref (F.1 0))], [], M)) rfl h1, _, List.Mem.head _, r, ⟨0, rfl, (sx_c_e r 0).symm⟩, fin _ fun C hC => ?_⟩
      have := w1 h2
      rw [List.mem_singleton.mp hC]
      show (0 : Int) ≤ 0 + (-1 * r 2 + 0)
      omega
end
section
def kk_seeT : sx_K := (136, 0, [(11, 0, 0, 9), (13, 2400, 2400, 0), (13, 288, 288, 0), (13, 6, 6, 14), (13, 212, 212, 10), (14, 64, 64, 0), (14, 10, 10, 0), (13, 212, 212, 10), (12, 400, 400, 0), (13, 400, 400, 0), (13, 7, 7, 13), (13, 24, 24, 0), (13, 72, 72, 11), (13, 32, 32, 12), (13, 848, 848, 16), (15, 4, 4, 0)], ([(0, 15, 15)], []), [(2, 0, (0, []))], ([((0, (15, [])), (0, [(0, 1)])), ((0, (1, [])), (0, [(1, 1)]))], [((0, (3, [])), 2), ((0, (5, [])), 3), ((0, (6, [])), 4), ((0, (27, [])), 5), ((0, (24, [])), 6), ((0, (26, [])), 7), ((0, (28, [])), 8), ((0, (0, [])), 9), ((0, (22, [])), 10), ((0, (4, [])), 11), ((0, (12, [])), 12), ((0, (13, [])), 13), ((0, (14, [])), 14), ((0, (29, [])), 15), ((0, (30, [])), 16)], ([(0, 0, 400), (1, 0, 400)], []), 2), [(some (0, 0, ((-1), [])), ([((0, (15, [])), (0, [(0, 1), (2, 1)])), ((0, (1, [])), (0, [(1, 1)]))], [], ([(2, 0, 400)], [(400, [(0, (-1)), (2, (-1))])]), 3)), (some (0, 0, (0, [(3, 1)])), ([((0, (15, [])), (0, [(0, 1), (2, 1)])), ((0, (1, [])), (0, [(1, 1)])), ((8, (0, [(0, 1), (2, 1)])), (0, [(4, 1)]))], [], ([(2, 0, 400), (3, 0, 255), (4, (-2147483648), 31)], [(400, [(0, (-1)), (2, (-1))]), ((-1), [(0, (-1)), (1, 1), (2, (-1))])]), 5)), (some (0, 0, (0, [(3, 1)])), ([((0, (15, [])), (0, [(0, 1), (2, 1)])), ((0, (1, [])), (0, [(1, 1)])), ((8, (0, [(0, 1), (2, 1)])), (0, [(4, 1)]))], [], ([(2, 0, 400), (3, 0, 255), (4, 33, 2147483647)], [(400, [(0, (-1)), (2, (-1))]), ((-1), [(0, (-1)), (1, 1), (2, (-1))])]), 5))])
theorem kz_sI {M : nt_M} {a j : Nat} {v : Int32} (h : nt_I M a j = v) : nt_sI M a j v = M := by
  have e : nt_u M.2.2.2.1 a j v = M.2.2.2.1 := by
    funext b i
    show (if b = a then (if i = j then v else M.2.2.2.1 b i) else M.2.2.2.1 b i) = M.2.2.2.1 b i
    by_cases h1 : b = a
    · rw [if_pos h1]
      by_cases h2 : i = j
      · rw [if_pos h2, h1, h2]; exact h.symm
      · rw [if_neg h2]
    · rw [if_neg h1]
  show (M.1, M.2.1, M.2.2.1, nt_u M.2.2.2.1 a j v, M.2.2.2.2.1, M.2.2.2.2.2) = M
  rw [e]
theorem kz_sI2 {M : nt_M} {a j : Nat} {u v : Int32} : nt_sI (nt_sI M a j u) a j v = nt_sI M a j v := by
  have e : nt_u (nt_u M.2.2.2.1 a j u) a j v = nt_u M.2.2.2.1 a j v := by
    funext b i
    show (if b = a then (if i = j then v else (if b = a then (if i = j then u else M.2.2.2.1 b i) else M.2.2.2.1 b i)) else (if b = a then (if i = j then u else M.2.2.2.1 b i) else M.2.2.2.1 b i)) = (if b = a then (if i = j then v else M.2.2.2.1 b i) else M.2.2.2.1 b i)
    by_cases h1 : b = a <;> by_cases h2 : i = j <;> simp [h1, h2]
  show (M.1, M.2.1, M.2.2.1, nt_u (nt_u M.2.2.2.1 a j u) a j v, M.2.2.2.2.1, M.2.2.2.2.2) = (M.1, M.2.1, M.2.2.1, nt_u M.2.2.2.1 a j v, M.2.2.2.2.1, M.2.2.2.2.2)
  rw [e]
theorem kz_tail {X : nt_X} {d B T t k : Nat} {M : nt_M} (t4 : t ≤ 400) (k4 : k ≤ 400) (hB : B < nt_n M) (kB : nt_k M B = 11) (hT : T < nt_n M) (kT : nt_k M T = 12) (lT : nt_l M T = 400) (rT : nt_R M B 0 = some T) (ht : nt_I M B 1 = nI t) (hk : nt_I M B 15 = nI k) : ∃ res : Int32, nt_rn X d 136 (38, [(0, .ref B)], [], M) (some (.int res), M) ∧ (res.toInt = -1 ∨ k < t ∧ 0 ≤ res.toInt ∧ res.toInt ≤ 255) := by
  have head : ∀ r, nt_rn X d 136 (if nI t ≤ nI k then 65 else 49, [(0, .ref B)], [], M) r → nt_rn X d 136 (38, [(0, .ref B)], [], M) r := by
    intro r h
    refine nt_rn_b 1 (c' := (39, [(0, .ref B)], [.ref B], M)) rfl ?_
    refine nt_rn_s (e := (39, .getfield 69, 1115, 0)) rfl rfl (nt_x_get (c := 11) (v := .int (nt_I M B 15)) hB kB rfl rfl) ?_
    refine nt_rn_b 1 (c' := (43, [(0, .ref B)], [.ref B, .int (nt_I M B 15)], M)) rfl ?_
    refine nt_rn_s (e := (43, .getfield 58, 1101, 0)) rfl rfl (nt_x_get (c := 11) (v := .int (nt_I M B 1)) hB kB rfl rfl) ?_
    rw [ht, hk]
    exact nt_rn_b 1 (c' := (if nI t ≤ nI k then 65 else 49, [(0, .ref B)], [], M)) rfl h
  by_cases h : t ≤ k
  · refine ⟨Int32.ofInt (-1), head _ ?_, Or.inl rfl⟩
    rw [if_pos (nI_le h (by omega))]
    refine nt_rn_b 1 (c' := (66, [(0, .ref B)], [.int (Int32.ofInt (-1))], M)) rfl ?_
    exact nt_rn_ri (e := (66, .ireturn, 0, 0)) rfl rfl rfl rfl rfl
  · refine ⟨nt_I M T k &&& Int32.ofInt 255, head _ ?_, Or.inr ⟨by omega, ?_⟩⟩
    · rw [if_neg (nI_ge (by omega) (by omega))]
      refine nt_rn_b 1 (c' := (50, [(0, .ref B)], [.ref B], M)) rfl ?_
      refine nt_rn_s (e := (50, .getfield 7, 1100, 0)) rfl rfl (nt_x_get (c := 11) (v := .ref T) hB kB rfl (nt_gfR rfl rT)) ?_
      refine nt_rn_b 1 (c' := (54, [(0, .ref B)], [.ref B, .ref T], M)) rfl ?_
      refine nt_rn_s (e := (54, .getfield 69, 1115, 0)) rfl rfl (nt_x_get (c := 11) (v := .int (nt_I M B 15)) hB kB rfl rfl) ?_
      refine nt_rn_s (e := (57, .baload, 0, 0)) rfl rfl (nt_x_bald (i := k) hT (Or.inl kT) hk (by rw [lT]; omega) (by rw [lT]; omega)) ?_
      refine nt_rn_b 3 (c' := (66, [(0, .ref B)], [.int (nt_I M T k &&& Int32.ofInt 255)], M)) rfl ?_
      exact nt_rn_ri (e := (66, .ireturn, 0, 0)) rfl rfl rfl rfl rfl
    · have := sx_and_ok (x := nt_I M T k) (y := Int32.ofInt 255) (by decide)
      exact this
theorem kz_run {X : nt_X} {d B T t : Nat} (t4 : t ≤ 400) (nBT : T ≠ B) : ∀ (n k : Nat) (M : nt_M), k + n = 400 → B < nt_n M → nt_k M B = 11 → T < nt_n M → nt_k M T = 12 → nt_l M T = 400 → nt_R M B 0 = some T → nt_I M B 1 = nI t → nt_I M B 15 = nI k → ∃ (w : Nat) (res : Int32), k ≤ w ∧ w ≤ 400 ∧ nt_rn X d 136 (0, [(0, .ref B)], [], M) (some (.int res), nt_sI M B 15 (nI w)) ∧ (res.toInt = -1 ∨ w < t ∧ nt_I M T w ≠ 32 ∧ 0 ≤ res.toInt ∧ res.toInt ≤ 255) := by
  intro n
  induction n with
  | zero =>
    intro k M hkn hB kB hT kT lT rT ht hk
    obtain ⟨res, h1, h2⟩ := kz_tail (X := X) (d := d) t4 (by omega) hB kB hT kT lT rT ht hk
    refine ⟨k, res, by omega, by omega, ?_, ?_⟩
    · rw [kz_sI hk]
      refine nt_rn_b 1 (c' := (1, [(0, .ref B)], [.ref B], M)) rfl ?_
      refine nt_rn_s (e := (1, .getfield 69, 1115, 0)) rfl rfl (nt_x_get (c := 11) (v := .int (nt_I M B 15)) hB kB rfl rfl) ?_
      refine nt_rn_b 1 (c' := (5, [(0, .ref B)], [.ref B, .int (nt_I M B 15)], M)) rfl ?_
      refine nt_rn_s (e := (5, .getfield 58, 1101, 0)) rfl rfl (nt_x_get (c := 11) (v := .int (nt_I M B 1)) hB kB rfl rfl) ?_
      rw [ht, hk]
      refine nt_rn_b 1 (c' := (if nI t ≤ nI k then 38 else 11, [(0, .ref B)], [], M)) rfl ?_
      rw [if_pos (nI_le (by omega) (by omega))]
      exact h1
    · rcases h2 with h2 | h2
      · exact Or.inl h2
      · omega
  | succ n ih =>
    intro k M hkn hB kB hT kT lT rT ht hk
    have head : ∀ r, nt_rn X d 136 (if nI t ≤ nI k then 38 else 11, [(0, .ref B)], [], M) r → nt_rn X d 136 (0, [(0, .ref B)], [], M) r := by
      intro r h
      refine nt_rn_b 1 (c' := (1, [(0, .ref B)], [.ref B], M)) rfl ?_
      refine nt_rn_s (e := (1, .getfield 69, 1115, 0)) rfl rfl (nt_x_get (c := 11) (v := .int (nt_I M B 15)) hB kB rfl rfl) ?_
      refine nt_rn_b 1 (c' := (5, [(0, .ref B)], [.ref B, .int (nt_I M B 15)], M)) rfl ?_
      refine nt_rn_s (e := (5, .getfield 58, 1101, 0)) rfl rfl (nt_x_get (c := 11) (v := .int (nt_I M B 1)) hB kB rfl rfl) ?_
      rw [ht, hk]
      exact nt_rn_b 1 (c' := (if nI t ≤ nI k then 38 else 11, [(0, .ref B)], [], M)) rfl h
    by_cases htk : t ≤ k
    · obtain ⟨res, h1, h2⟩ := kz_tail (X := X) (d := d) t4 (by omega) hB kB hT kT lT rT ht hk
      refine ⟨k, res, by omega, by omega, ?_, ?_⟩
      · rw [kz_sI hk]
        refine head _ ?_
        rw [if_pos (nI_le htk (by omega))]
        exact h1
      · rcases h2 with h2 | h2
        · exact Or.inl h2
        · omega
    · have step : ∀ r, nt_rn X d 136 (if nt_I M T k = Int32.ofInt 32 then 25 else 38, [(0, .ref B)], [], M) r → nt_rn X d 136 (0, [(0, .ref B)], [], M) r := by
        intro r h
        refine head _ ?_
        rw [if_neg (nI_ge (by omega) (by omega))]
        refine nt_rn_b 1 (c' := (12, [(0, .ref B)], [.ref B], M)) rfl ?_
        refine nt_rn_s (e := (12, .getfield 7, 1100, 0)) rfl rfl (nt_x_get (c := 11) (v := .ref T) hB kB rfl (nt_gfR rfl rT)) ?_
        refine nt_rn_b 1 (c' := (16, [(0, .ref B)], [.ref B, .ref T], M)) rfl ?_
        refine nt_rn_s (e := (16, .getfield 69, 1115, 0)) rfl rfl (nt_x_get (c := 11) (v := .int (nt_I M B 15)) hB kB rfl rfl) ?_
        refine nt_rn_s (e := (19, .baload, 0, 0)) rfl rfl (nt_x_bald (i := k) hT (Or.inl kT) hk (by rw [lT]; omega) (by rw [lT]; omega)) ?_
        exact nt_rn_b 2 (c' := (if nt_I M T k = Int32.ofInt 32 then 25 else 38, [(0, .ref B)], [], M)) rfl h
      by_cases e : nt_I M T k = 32
      · obtain ⟨w, res, w1, w2, w3, w4⟩ := ih (k + 1) (nt_sI M B 15 (nI (k + 1))) (by omega) hB kB hT kT lT rT (by
          show (if B = B then (if 1 = 15 then nI (k + 1) else nt_I M B 1) else nt_I M B 1) = _
          rw [if_pos rfl, if_neg (by decide)]; exact ht) (by
          show (if B = B then (if 15 = 15 then nI (k + 1) else nt_I M B 15) else nt_I M B 15) = _
          rw [if_pos rfl, if_pos rfl])
        rw [kz_sI2] at w3
        refine ⟨w, res, by omega, w2, step _ ?_, ?_⟩
        · rw [if_pos (show nt_I M T k = Int32.ofInt 32 from e)]
          refine nt_rn_b 2 (c' := (27, [(0, .ref B)], [.ref B, .ref B], M)) rfl ?_
          refine nt_rn_s (e := (27, .getfield 69, 1115, 0)) rfl rfl (nt_x_get (c := 11) (v := .int (nt_I M B 15)) hB kB rfl rfl) ?_
          refine nt_rn_b 2 (c' := (32, [(0, .ref B)], [.int (nt_I M B 15 + Int32.ofInt 1), .ref B], M)) rfl ?_
          refine nt_rn_s (e := (32, .putfield 69, 1115, 0)) rfl rfl (nt_x_put (c := 11) (M' := nt_sI M B 15 (nt_I M B 15 + Int32.ofInt 1)) hB kB rfl rfl) ?_
          rw [hk, show nI k + Int32.ofInt 1 = nI (k + 1) from nI_1 k]
          exact nt_rn_b 1 (c' := (0, [(0, .ref B)], [], nt_sI M B 15 (nI (k + 1)))) rfl w3
        · have q : nt_I (nt_sI M B 15 (nI (k + 1))) T w = nt_I M T w := by
            show (if T = B then (if w = 15 then nI (k + 1) else nt_I M T w) else nt_I M T w) = _
            rw [if_neg nBT]
          rw [q] at w4
          exact w4
      · obtain ⟨res, h1, h2⟩ := kz_tail (X := X) (d := d) t4 (by omega) hB kB hT kT lT rT ht hk
        refine ⟨k, res, by omega, by omega, ?_, ?_⟩
        · rw [kz_sI hk]
          refine step _ ?_
          rw [if_neg (show ¬ nt_I M T k = Int32.ofInt 32 from e)]
          exact h1
        · rcases h2 with h2 | h2
          · exact Or.inl h2
          · exact Or.inr ⟨h2.1, e, h2.2⟩
theorem ko_seeT (X : nt_X) : sx_KOK X (sx_tbs, []) kk_seeT := by
  intro F r vs M d hd hM hr hG hargs hon
  obtain ⟨v0, u0, rfl, rfl, ha⟩ := sx_os_c hargs
  cases u0 with
  | cons _ _ => exact ha.elim
  | nil =>
  have hoi := hon.2.2.1
  have hob := hon.2.2.2.2.1.1
  have b0 := hob (0, 0, 400) (List.Mem.head _)
  have b1 := hob (1, 0, 400) (List.Mem.tail _ (List.Mem.head _))
  dsimp only at b0 b1
  have k0 := (hoi ((0, (15, [])), (0, [(0, 1)])) (List.Mem.head _)).2
  have k1 := (hoi ((0, (1, [])), (0, [(1, 1)])) (List.Mem.tail _ (List.Mem.head _))).2
  dsimp only at k0 k1
  rw [sx_c_e, sx_s_e] at k0 k1
  unfold sx_rd at k0 k1
  rw [if_neg (by decide), if_neg (by decide)] at k0 k1
  obtain ⟨k, ek⟩ : ∃ k : Nat, r 0 = (k : Int) := ⟨(r 0).toNat, by omega⟩
  obtain ⟨t, et⟩ : ∃ t : Nat, r 1 = (t : Int) := ⟨(r 1).toNat, by omega⟩
  rw [ek] at b0 k0
  rw [et] at b1 k1
  have g0 := hon.2.1.2 0 _ (show (sx_KE (sx_tbs, []) kk_seeT).2.1[0]? = some (11, 0, 0, 9) from rfl)
  have g8 := hon.2.1.2 8 _ (show (sx_KE (sx_tbs, []) kk_seeT).2.1[8]? = some (12, 400, 400, 0) from rfl)
  have rT := (hon.2.2.2.1 ((0, (0, [])), 9) (List.mem_of_getElem? (i := 7) rfl)).2.2
  dsimp only at rT
  rw [sx_c_e] at rT
  have rT : nt_R M (F.1 0) 0 = some (F.1 8) := rT
  have hk : nt_I M (F.1 0) 15 = nI k := Int32.toInt_inj.mp (by rw [nI_toInt (by omega)]; exact k0)
  have ht : nt_I M (F.1 0) 1 = nI t := Int32.toInt_inj.mp (by rw [nI_toInt (by omega)]; exact k1)
  have hij := hon.1.2
  have nBT : F.1 8 ≠ F.1 0 := fun h => absurd (hij 8 0 (by show 8 < 16; omega) (by show 0 < 16; omega) h) (by decide)
  obtain ⟨w, res, w1, w2, hrun, hres⟩ := kz_run (X := X) (d := d) (by omega) nBT (400 - k) k M (by omega) g0.1 g0.2.1 g8.1 g8.2.1 (by have := g8.2.2.1; dsimp only at this; omega) rT ht hk
  have wr : sx_on (sx_KE (sx_tbs, []) kk_seeT) F r (kk_seeT.2.2.2.2.2.1.1.filter (sx_kp (sx_KE (sx_tbs, []) kk_seeT) kk_seeT.2.2.2.2.2.1 0 (15, [])), kk_seeT.2.2.2.2.2.1.2) (nt_sI M (F.1 0) 15 (nI w)) := by
    have := sx_wr_ok (E := sx_KE (sx_tbs, []) kk_seeT) (g := 0) (q := (11, 0, 0, 9)) (L := (15, [])) (x := nI w) rfl hon rfl (by decide) (by rw [sx_c_e]; decide) rfl (by
      rw [nI_toInt (by omega), sx_c_e]
      show (0 : Int) ≤ _ ∧ _ ≤ (400 : Int)
      omega)
    rw [sx_c_e] at this
    exact this
  have rows : ∀ a j, ¬ (a = F.1 0 ∧ j = 15) → nt_I (nt_sI M (F.1 0) 15 (nI w)) a j = nt_I M a j := by
    intro a j h
    show (if a = F.1 0 then (if j = 15 then nI w else nt_I M a j) else nt_I M a j) = _
    by_cases h1 : a = F.1 0
    · rw [if_pos h1, if_neg (fun h2 => h ⟨h1, h2⟩)]
    · rw [if_neg h1]
  have row15 : nt_I (nt_sI M (F.1 0) 15 (nI w)) (F.1 0) 15 = nI w := by
    show (if F.1 0 = F.1 0 then (if 15 = 15 then nI w else nt_I M (F.1 0) 15) else nt_I M (F.1 0) 15) = _
    rw [if_pos rfl, if_pos rfl]
  obtain ⟨r', e0, e1, e2, e3, e4⟩ : ∃ r' : Nat → Int, r' 0 = r 0 ∧ r' 1 = r 1 ∧ r' 2 = (w : Int) - k ∧ r' 3 = res.toInt ∧ r' 4 = (nt_I M (F.1 8) w).toInt := ⟨fun s => if s = 2 then (w : Int) - k else if s = 3 then res.toInt else if s = 4 then (nt_I M (F.1 8) w).toInt else r s, rfl, rfl, rfl, rfl, rfl⟩
  have fin : ∀ (ic : sx_I) (bc : sx_B × List sx_L) (n : Nat), sx_oi (sx_KE (sx_tbs, []) kk_seeT) F r' ic (nt_sI M (F.1 0) 15 (nI w)) → sx_ob r' bc.1 → sx_oc r' bc.2 → sx_on (sx_KE (sx_tbs, []) kk_seeT) F r' (ic, [], bc, n) (nt_sI M (F.1 0) 15 (nI w)) := by
    intro ic bc n h1 h2 h3
    refine ⟨wr.1, wr.2.1, h1, fun q hq => (by cases hq), ⟨h2, h3⟩, fun s hs => ?_, wr.2.2.2.2.2.2⟩
    have hs : s < 2 := hs
    have hq := hon.2.2.2.2.2.1 s hs
    rcases (by omega : s = 0 ∨ s = 1) with rfl | rfl
    · rw [e0]; exact hq
    · rw [e1]; exact hq
  have c15 : ((0 : Nat) < (sx_KE (sx_tbs, []) kk_seeT).2.1.length ∨ 100 ≤ 0) ∧ sx_rd F (nt_sI M (F.1 0) 15 (nI w)) 0 (sx_e r' (15, [])) = sx_e r' (0, [(0, 1), (2, 1)]) := by
    refine ⟨Or.inl (by show 0 < 16; omega), ?_⟩
    rw [sx_c_e]
    unfold sx_rd
    rw [if_neg (by decide), if_neg (by decide)]
    show (nt_I (nt_sI M (F.1 0) 15 (nI w)) (F.1 0) 15).toInt = 0 + (1 * r' 0 + (1 * r' 2 + 0))
    rw [row15, nI_toInt (by omega)]
    omega
  have c1 : ((0 : Nat) < (sx_KE (sx_tbs, []) kk_seeT).2.1.length ∨ 100 ≤ 0) ∧ sx_rd F (nt_sI M (F.1 0) 15 (nI w)) 0 (sx_e r' (1, [])) = sx_e r' (0, [(1, 1)]) := by
    refine ⟨Or.inl (by show 0 < 16; omega), ?_⟩
    rw [sx_c_e, sx_s_e]
    unfold sx_rd
    rw [if_neg (by decide), if_neg (by decide)]
    show (nt_I (nt_sI M (F.1 0) 15 (nI w)) (F.1 0) 1).toInt = r' 1
    rw [rows _ _ (fun h => absurd h.2 (by decide)), ht, nI_toInt (by omega)]
    omega
  have c8 : ((8 : Nat) < (sx_KE (sx_tbs, []) kk_seeT).2.1.length ∨ 100 ≤ 8) ∧ sx_rd F (nt_sI M (F.1 0) 15 (nI w)) 8 (sx_e r' (0, [(0, 1), (2, 1)])) = sx_e r' (0, [(4, 1)]) := by
    refine ⟨Or.inl (by show 8 < 16; omega), ?_⟩
    have ew : sx_e r' (0, [(0, 1), (2, 1)]) = (w : Int) := by
      show 0 + (1 * r' 0 + (1 * r' 2 + 0)) = _
      omega
    rw [ew, sx_s_e, e4]
    unfold sx_rd
    rw [if_neg (by decide), if_neg (by omega)]
    rw [rows _ _ (fun h => nBT h.1)]
    rfl
  have q400 : 0 ≤ sx_e r' (400, [(0, (-1)), (2, (-1))]) := by
    show (0 : Int) ≤ 400 + (-1 * r' 0 + (-1 * r' 2 + 0))
    omega
  rcases hres with hres | ⟨h1, h2, h3, h4⟩
  · refine ⟨_, hrun, _, List.Mem.head _, r', ⟨res, rfl, by rw [sx_c_e]; exact hres⟩, fin _ _ _ ?_ ?_ ?_⟩
    · intro q hq
      rcases List.mem_cons.mp hq with rfl | hq
      · exact c15
      · rw [List.mem_singleton.mp hq]; exact c1
    · intro q hq
      rw [List.mem_singleton.mp hq]
      dsimp only
      omega
    · intro q hq
      rw [List.mem_singleton.mp hq]
      exact q400
  · have nb : (nt_I M (F.1 8) w).toInt ≠ 32 := fun h => h2 (Int32.toInt_inj.mp h)
    have lo := (nt_I M (F.1 8) w).le_toInt
    have hi := (nt_I M (F.1 8) w).toInt_lt
    have qt : 0 ≤ sx_e r' ((-1), [(0, (-1)), (1, 1), (2, (-1))]) := by
      show (0 : Int) ≤ -1 + (-1 * r' 0 + (1 * r' 1 + (-1 * r' 2 + 0)))
      omega
    have cells : sx_oi (sx_KE (sx_tbs, []) kk_seeT) F r' [((0, (15, [])), (0, [(0, 1), (2, 1)])), ((0, (1, [])), (0, [(1, 1)])), ((8, (0, [(0, 1), (2, 1)])), (0, [(4, 1)]))] (nt_sI M (F.1 0) 15 (nI w)) := by
      intro q hq
      rcases List.mem_cons.mp hq with rfl | hq
      · exact c15
      rcases List.mem_cons.mp hq with rfl | hq
      · exact c1
      · rw [List.mem_singleton.mp hq]; exact c8
    have cons : sx_oc r' [(400, [(0, (-1)), (2, (-1))]), ((-1), [(0, (-1)), (1, 1), (2, (-1))])] := by
      intro q hq
      rcases List.mem_cons.mp hq with rfl | hq
      · exact q400
      · rw [List.mem_singleton.mp hq]; exact qt
    by_cases hs : (nt_I M (F.1 8) w).toInt < 32
    · refine ⟨_, hrun, _, List.Mem.tail _ (List.Mem.head _), r', ⟨res, rfl, by rw [sx_s_e]; exact e3.symm⟩, fin _ _ _ cells ?_ cons⟩
      intro q hq
      rcases List.mem_cons.mp hq with rfl | hq
      · dsimp only; omega
      rcases List.mem_cons.mp hq with rfl | hq
      · dsimp only; omega
      · rw [List.mem_singleton.mp hq]; dsimp only; omega
    · refine ⟨_, hrun, _, List.Mem.tail _ (List.Mem.tail _ (List.Mem.head _)), r', ⟨res, rfl, by rw [sx_s_e]; exact e3.symm⟩, fin _ _ _ cells ?_ cons⟩
      intro q hq
      rcases List.mem_cons.mp hq with rfl | hq
      · dsimp only; omega
      rcases List.mem_cons.mp hq with rfl | hq
      · dsimp only; omega
      · rw [List.mem_singleton.mp hq]; dsimp only; omega
end
section
def kk_strength : sx_K := (164, 0, [], ([], []), [(0, 0, (0, [(0, 1)]))], ([], [], ([(0, (-2147483648), 2147483647)], []), 1), [(some (0, 0, (1, [])), ([], [], ([], [((-13), [(0, 1)]), (13, [(0, (-1))])]), 1)), (some (0, 0, (2, [])), ([], [], ([], [((-12), [(0, 1)]), (12, [(0, (-1))])]), 1)), (some (0, 0, (3, [])), ([], [], ([], [((-11), [(0, 1)]), (11, [(0, (-1))])]), 1)), (some (0, 0, (0, [])), ([], [], ([], [(10, [(0, (-1))])]), 1)), (some (0, 0, (0, [])), ([], [], ([], [((-14), [(0, 1)])]), 1))])
theorem ks_fin {F : sx_F} {r : Nat → Int} {M : nt_M} (hon : sx_on (sx_KE (sx_tbs, []) kk_strength) F r kk_strength.2.2.2.2.2.1 M) {cs : List sx_L} (hc : ∀ C ∈ cs, 0 ≤ sx_e r C) : sx_on (sx_KE (sx_tbs, []) kk_strength) F r ([], [], ([], cs), 1) M := ⟨hon.1, hon.2.1, fun q hq => (by cases hq), fun q hq => (by cases hq), ⟨fun q hq => (by cases hq), hc⟩, hon.2.2.2.2.2.1, hon.2.2.2.2.2.2⟩
theorem ks_1 {r : Nat → Int} (k : Int) : sx_e r (k, [(0, 1)]) = k + r 0 := by show k + (1 * r 0 + 0) = _; omega
theorem ks_2 {r : Nat → Int} (k : Int) : sx_e r (k, [(0, (-1))]) = k - r 0 := by show k + (-1 * r 0 + 0) = _; omega
theorem ks_eq {r : Nat → Int} {k : Int} (h : r 0 = k) : ∀ C ∈ [((-k), [(0, 1)]), (k, [(0, (-1))])], 0 ≤ sx_e r C := by
  intro C hC
  rcases List.mem_cons.mp hC with rfl | hC
  · rw [ks_1]; omega
  · rw [List.mem_singleton.mp hC, ks_2]; omega
theorem ko_strength (X : nt_X) : sx_KOK X (sx_tbs, []) kk_strength := by
  intro F r vs M d hd hM hr hG hargs hon
  obtain ⟨v, u, rfl, ⟨x, rfl, hx⟩, hu⟩ := sx_os_c hargs
  cases u with
  | cons _ _ => exact hu.elim
  | nil =>
  have hx : x.toInt = r 0 := by rw [hx]; exact sx_s_e r 0
  have ret : ∀ k : Int32, nt_rn X d 164 (31, [(0, .int x)], [.int k], M) (some (.int k), M) := fun k => nt_rn_ri (e := (31, .ireturn, 0, 0)) rfl rfl rfl rfl rfl
  have ov : ∀ (k : Int32) (n : Int), k.toInt = n → sx_ov F.1 r (some (0, 0, (n, []))) (some (.int k)) := fun k n h => ⟨k, rfl, by rw [h]; exact (sx_c_e r n).symm⟩
  by_cases h13 : x = Int32.ofInt 13
  · refine ⟨(some (.int (Int32.ofInt 1)), M), ?_, _, List.Mem.head _, r, ov _ 1 rfl, ks_fin hon (ks_eq (k := 13) (by rw [← hx, h13]; rfl))⟩
    refine nt_rn_b 3 (c' := (if x = Int32.ofInt 13 then 6 else 10, [(0, .int x)], [], M)) rfl ?_
    rw [if_pos h13]
    exact nt_rn_b 2 (c' := (31, [(0, .int x)], [.int (Int32.ofInt 1)], M)) rfl (ret _)
  by_cases h12 : x = Int32.ofInt 12
  · refine ⟨(some (.int (Int32.ofInt 2)), M), ?_, _, List.Mem.tail _ (List.Mem.head _), r, ov _ 2 rfl, ks_fin hon (ks_eq (k := 12) (by rw [← hx, h12]; rfl))⟩
    refine nt_rn_b 3 (c' := (if x = Int32.ofInt 13 then 6 else 10, [(0, .int x)], [], M)) rfl ?_
    rw [if_neg h13]
    refine nt_rn_b 3 (c' := (if x = Int32.ofInt 12 then 16 else 20, [(0, .int x)], [], M)) rfl ?_
    rw [if_pos h12]
    exact nt_rn_b 2 (c' := (31, [(0, .int x)], [.int (Int32.ofInt 2)], M)) rfl (ret _)
  by_cases h11 : x = Int32.ofInt 11
  · refine ⟨(some (.int (Int32.ofInt 3)), M), ?_, _, List.Mem.tail _ (List.Mem.tail _ (List.Mem.head _)), r, ov _ 3 rfl, ks_fin hon (ks_eq (k := 11) (by rw [← hx, h11]; rfl))⟩
    refine nt_rn_b 3 (c' := (if x = Int32.ofInt 13 then 6 else 10, [(0, .int x)], [], M)) rfl ?_
    rw [if_neg h13]
    refine nt_rn_b 3 (c' := (if x = Int32.ofInt 12 then 16 else 20, [(0, .int x)], [], M)) rfl ?_
    rw [if_neg h12]
    refine nt_rn_b 3 (c' := (if x = Int32.ofInt 11 then 26 else 30, [(0, .int x)], [], M)) rfl ?_
    rw [if_pos h11]
    exact nt_rn_b 2 (c' := (31, [(0, .int x)], [.int (Int32.ofInt 3)], M)) rfl (ret _)
  have run : nt_ev X d 164 [.int x] M (some (.int (Int32.ofInt 0)), M) := by
    refine nt_rn_b 3 (c' := (if x = Int32.ofInt 13 then 6 else 10, [(0, .int x)], [], M)) rfl ?_
    rw [if_neg h13]
    refine nt_rn_b 3 (c' := (if x = Int32.ofInt 12 then 16 else 20, [(0, .int x)], [], M)) rfl ?_
    rw [if_neg h12]
    refine nt_rn_b 3 (c' := (if x = Int32.ofInt 11 then 26 else 30, [(0, .int x)], [], M)) rfl ?_
    rw [if_neg h11]
    exact nt_rn_b 1 (c' := (31, [(0, .int x)], [.int (Int32.ofInt 0)], M)) rfl (ret _)
  have n13 : x.toInt ≠ 13 := fun h => h13 (Int32.toInt_inj.mp (by rw [h]; rfl))
  have n12 : x.toInt ≠ 12 := fun h => h12 (Int32.toInt_inj.mp (by rw [h]; rfl))
  have n11 : x.toInt ≠ 11 := fun h => h11 (Int32.toInt_inj.mp (by rw [h]; rfl))
  by_cases h10 : r 0 ≤ 10
  · exact ⟨_, run, _, List.Mem.tail _ (List.Mem.tail _ (List.Mem.tail _ (List.Mem.head _))), r, ov _ 0 rfl, ks_fin hon (fun C hC => by rw [List.mem_singleton.mp hC, ks_2]; omega)⟩
  · exact ⟨_, run, _, List.Mem.tail _ (List.Mem.tail _ (List.Mem.tail _ (List.Mem.tail _ (List.Mem.head _)))), r, ov _ 0 rfl, ks_fin hon (fun C hC => by rw [List.mem_singleton.mp hC, ks_1]; omega)⟩
end
section
/-! the row open, a step on and a step back -/
theorem kv_ob {p : Nat → Nat → Int32} {i d x : Int} (h2 : nt_ghost 2 p i = d) (h4 : nt_ghost 4 p i = x) (hd : 0 ≤ d) : ∃ q : Nat × Nat, nt_ob (p 9) i.toNat = some q ∧ (q.1 : Int) = d ∧ (q.2 : Int) = x := by
  rw [kw_g2] at h2
  rw [kw_g4] at h4
  cases h : nt_ob (p 9) i.toNat with
  | none =>
    rw [h] at h2
    dsimp only at h2
    omega
  | some q =>
    rw [h] at h2 h4
    exact ⟨q, rfl, h2, h4⟩
theorem kv_of {p : Nat → Nat → Int32} {i : Int} {q : Nat × Nat} (h : nt_ob (p 9) i.toNat = some q) : nt_ghost 2 p i = q.1 ∧ nt_ghost 4 p i = q.2 := by
  rw [kw_g2, kw_g4, h]
  exact ⟨rfl, rfl⟩
theorem kv_is {y k : Int32} (h : y.toInt = k.toInt) : y = k := Int32.toInt_inj.mp h
/-- a step on -/
theorem kv_up {p : Nat → Nat → Int32} {i d x v : Int} (h2 : nt_ghost 2 p i = d) (h4 : nt_ghost 4 p i = x) (hd : 0 ≤ d) (hi : 0 ≤ i) (hv : (p 9 i.toNat).toInt = v) : (v = 11 → nt_ghost 2 p (i + 1) = d ∧ nt_ghost 4 p (i + 1) = x) ∧ (v = 91 → nt_ghost 2 p (i + 1) = d ∧ nt_ghost 4 p (i + 1) = x + 1) ∧ (v = 12 ∨ v = 13 → nt_ghost 2 p (i + 1) = d + 1 ∧ nt_ghost 4 p (i + 1) = x) := by
  obtain ⟨q, hq, q1, q2⟩ := kv_ob h2 h4 hd
  have e : (i + 1).toNat = i.toNat + 1 := by omega
  have key : ∀ q' : Nat × Nat, (if p 9 i.toNat = 12 ∨ p 9 i.toNat = 13 then some (q.1 + 1, q.2) else if p 9 i.toNat = 11 then some q else if p 9 i.toNat = 91 then some (q.1, q.2 + 1) else none) = some q' → nt_ghost 2 p (i + 1) = q'.1 ∧ nt_ghost 4 p (i + 1) = q'.2 := by
    intro q' h
    refine kv_of ?_
    rw [e]
    unfold nt_ob
    rw [hq]
    exact h
  refine ⟨fun h => ?_, fun h => ?_, fun h => ?_⟩
  · have ha : p 9 i.toNat = 11 := kv_is (by rw [hv, h]; rfl)
    have := key q (by rw [ha]; rfl)
    omega
  · have ha : p 9 i.toNat = 91 := kv_is (by rw [hv, h]; rfl)
    have := key (q.1, q.2 + 1) (by rw [ha]; rfl)
    dsimp only at this
    omega
  · have ha : p 9 i.toNat = 12 ∨ p 9 i.toNat = 13 := by
      rcases h with h | h
      · exact Or.inl (kv_is (by rw [hv, h]; rfl))
      · exact Or.inr (kv_is (by rw [hv, h]; rfl))
    have := key (q.1 + 1, q.2) (by rw [if_pos ha])
    dsimp only at this
    omega
/-- a step back -/
theorem kv_dn {p : Nat → Nat → Int32} {i d x v : Int} (h2 : nt_ghost 2 p (i + 1) = d) (h4 : nt_ghost 4 p (i + 1) = x) (hd : 0 ≤ d) (hi : 0 ≤ i) (hv : (p 9 i.toNat).toInt = v) : (v = 11 → nt_ghost 2 p i = d ∧ nt_ghost 4 p i = x) ∧ (v = 12 ∨ v = 13 → 1 ≤ d ∧ nt_ghost 2 p i = d - 1 ∧ nt_ghost 4 p i = x) ∧ (v < 11 ∨ 13 < v → 1 ≤ x ∧ nt_ghost 2 p i = d ∧ nt_ghost 4 p i = x - 1) := by
  obtain ⟨q, hq, q1, q2⟩ := kv_ob h2 h4 hd
  rw [show (i + 1).toNat = i.toNat + 1 from by omega] at hq
  unfold nt_ob at hq
  split at hq
  · cases hq
  · rename_i q0 h0
    obtain ⟨g2, g4⟩ := kv_of (p := p) (i := i) h0
    refine ⟨fun h => ?_, fun h => ?_, fun h => ?_⟩
    · have ha : p 9 i.toNat = 11 := kv_is (by rw [hv, h]; rfl)
      rw [ha] at hq
      have hq : some q0 = some q := hq
      cases hq
      omega
    · have ha : p 9 i.toNat = 12 ∨ p 9 i.toNat = 13 := by
        rcases h with h | h
        · exact Or.inl (kv_is (by rw [hv, h]; rfl))
        · exact Or.inr (kv_is (by rw [hv, h]; rfl))
      rw [if_pos ha] at hq
      cases hq
      dsimp only at q1 q2
      omega
    · have n1 : ¬ (p 9 i.toNat = 12 ∨ p 9 i.toNat = 13) := by
        rintro (e | e)
        · rw [e] at hv; have : (12 : Int) = v := hv; omega
        · rw [e] at hv; have : (13 : Int) = v := hv; omega
      have n2 : ¬ p 9 i.toNat = 11 := fun e => by rw [e] at hv; have : (11 : Int) = v := hv; omega
      rw [if_neg n1, if_neg n2] at hq
      by_cases n3 : p 9 i.toNat = 91
      · rw [if_pos n3] at hq
        cases hq
        dsimp only at q1 q2
        omega
      · rw [if_neg n3] at hq
        cases hq
/-- a ghost's cell, read -/
theorem kv_gc {F : sx_F} {M : nt_M} {g : Nat} {i v : Int} (hg : F.2.2.2 = nt_ghost) (h : sx_rd F M (100 + g) i = v) : nt_ghost g (fun h j => nt_I M (F.1 h) j) i = v := by
  unfold sx_rd at h
  rw [if_pos (by omega), hg, show 100 + g - 100 = g from by omega] at h
  exact h
theorem kv_cg {F : sx_F} {M : nt_M} {g : Nat} {i v : Int} (hg : F.2.2.2 = nt_ghost) (h : nt_ghost g (fun h j => nt_I M (F.1 h) j) i = v) : sx_rd F M (100 + g) i = v := by
  unfold sx_rd
  rw [if_pos (by omega), hg, show 100 + g - 100 = g from by omega]
  exact h
end
