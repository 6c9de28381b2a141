def kk_strength : sx_K := (164, 0, [], ([], []), [(0, 0, (0, [(0, 1)]))], ([], [], ([(0, (-2147483648), 2147483647)], []), 1), [(some (0, 0, (1, [])), ([], [], ([], [((-13), [(0, 1)]), (13, [(0, (-1))])]), 1)), (some (0, 0, (2, [])), ([], [], ([], [((-12), [(0, 1)]), (12, [(0, (-1))])]), 1)), (some (0, 0, (3, [])), ([], [], ([], [((-11), [(0, 1)]), (11, [(0, (-1))])]), 1)), (some (0, 0, (0, [])), ([], [], ([], [(10, [(0, (-1))])]), 1)), (some (0, 0, (0, [])), ([], [], ([], [((-14), [(0, 1)])]), 1))])
theorem ks_fin {F : sx_F} {r : Nat → Int} {M : nt_M} (hon : sx_on (sx_KE (sx_tbs, []) kk_strength) F r kk_strength.2.2.2.2.2.1 M) {cs : List sx_L} (hc : ∀ C ∈ cs, 0 ≤ sx_e r C) : sx_on (sx_KE (sx_tbs, []) kk_strength) F r ([], [], ([], cs), 1) M := ⟨hon.1, hon.2.1, fun q hq => (by cases hq), fun q hq => (by cases hq), ⟨fun q hq => (by cases hq), hc⟩, hon.2.2.2.2.2.1, hon.2.2.2.2.2.2⟩
theorem ks_1 {r : Nat → Int} (k : Int) : sx_e r (k, [(0, 1)]) = k + r 0 := by show k + (1 * r 0 + 0) = _; omega
theorem ks_2 {r : Nat → Int} (k : Int) : sx_e r (k, [(0, (-1))]) = k - r 0 := by show k + (-1 * r 0 + 0) = _; omega
theorem ks_eq {r : Nat → Int} {k : Int} (h : r 0 = k) : ∀ C ∈ [((-k), [(0, 1)]), (k, [(0, (-1))])], 0 ≤ sx_e r C := by
  intro C hC
  rcases List.mem_cons.mp hC with rfl | hC
  · rw [ks_1]; omega
  · rw [List.mem_singleton.mp hC, ks_2]; omega
theorem ko_strength (X : nt_X) : sx_KOK X (sx_tbs, []) kk_strength := by
  intro F r vs M d hd hM hr hG hargs hon
  obtain ⟨v, u, rfl, ⟨x, rfl, hx⟩, hu⟩ := sx_os_c hargs
  cases u with
  | cons _ _ => exact hu.elim
  | nil =>
  have hx : x.toInt = r 0 := by rw [hx]; exact sx_s_e r 0
  have ret : ∀ k : Int32, nt_rn X d 164 (31, [(0, .int x)], [.int k], M) (some (.int k), M) := fun k => nt_rn_ri (e := (31, .ireturn, 0, 0)) rfl rfl rfl rfl rfl
  have ov : ∀ (k : Int32) (n : Int), k.toInt = n → sx_ov F.1 r (some (0, 0, (n, []))) (some (.int k)) := fun k n h => ⟨k, rfl, by rw [h]; exact (sx_c_e r n).symm⟩
  by_cases h13 : x = Int32.ofInt 13
  · refine ⟨(some (.int (Int32.ofInt 1)), M), ?_, _, List.Mem.head _, r, ov _ 1 rfl, ks_fin hon (ks_eq (k := 13) (by rw [← hx, h13]; rfl))⟩
    refine nt_rn_b 3 (c' := (if x = Int32.ofInt 13 then 6 else 10, [(0, .int x)], [], M)) rfl ?_
    rw [if_pos h13]
    exact nt_rn_b 2 (c' := (31, [(0, .int x)], [.int (Int32.ofInt 1)], M)) rfl (ret _)
  by_cases h12 : x = Int32.ofInt 12
  · refine ⟨(some (.int (Int32.ofInt 2)), M), ?_, _, List.Mem.tail _ (List.Mem.head _), r, ov _ 2 rfl, ks_fin hon (ks_eq (k := 12) (by rw [← hx, h12]; rfl))⟩
    refine nt_rn_b 3 (c' := (if x = Int32.ofInt 13 then 6 else 10, [(0, .int x)], [], M)) rfl ?_
    rw [if_neg h13]
    refine nt_rn_b 3 (c' := (if x = Int32.ofInt 12 then 16 else 20, [(0, .int x)], [], M)) rfl ?_
    rw [if_pos h12]
    exact nt_rn_b 2 (c' := (31, [(0, .int x)], [.int (Int32.ofInt 2)], M)) rfl (ret _)
  by_cases h11 : x = Int32.ofInt 11
  · refine ⟨(some (.int (Int32.ofInt 3)), M), ?_, _, List.Mem.tail _ (List.Mem.tail _ (List.Mem.head _)), r, ov _ 3 rfl, ks_fin hon (ks_eq (k := 11) (by rw [← hx, h11]; rfl))⟩
    refine nt_rn_b 3 (c' := (if x = Int32.ofInt 13 then 6 else 10, [(0, .int x)], [], M)) rfl ?_
    rw [if_neg h13]
    refine nt_rn_b 3 (c' := (if x = Int32.ofInt 12 then 16 else 20, [(0, .int x)], [], M)) rfl ?_
    rw [if_neg h12]
    refine nt_rn_b 3 (c' := (if x = Int32.ofInt 11 then 26 else 30, [(0, .int x)], [], M)) rfl ?_
    rw [if_pos h11]
    exact nt_rn_b 2 (c' := (31, [(0, .int x)], [.int (Int32.ofInt 3)], M)) rfl (ret _)
  have run : nt_ev X d 164 [.int x] M (some (.int (Int32.ofInt 0)), M) := by
    refine nt_rn_b 3 (c' := (if x = Int32.ofInt 13 then 6 else 10, [(0, .int x)], [], M)) rfl ?_
    rw [if_neg h13]
    refine nt_rn_b 3 (c' := (if x = Int32.ofInt 12 then 16 else 20, [(0, .int x)], [], M)) rfl ?_
    rw [if_neg h12]
    refine nt_rn_b 3 (c' := (if x = Int32.ofInt 11 then 26 else 30, [(0, .int x)], [], M)) rfl ?_
    rw [if_neg h11]
    exact nt_rn_b 1 (c' := (31, [(0, .int x)], [.int (Int32.ofInt 0)], M)) rfl (ret _)
  have n13 : x.toInt ≠ 13 := fun h => h13 (Int32.toInt_inj.mp (by rw [h]; rfl))
  have n12 : x.toInt ≠ 12 := fun h => h12 (Int32.toInt_inj.mp (by rw [h]; rfl))
  have n11 : x.toInt ≠ 11 := fun h => h11 (Int32.toInt_inj.mp (by rw [h]; rfl))
  by_cases h10 : r 0 ≤ 10
  · exact ⟨_, run, _, List.Mem.tail _ (List.Mem.tail _ (List.Mem.tail _ (List.Mem.head _))), r, ov _ 0 rfl, ks_fin hon (fun C hC => by rw [List.mem_singleton.mp hC, ks_2]; omega)⟩
  · exact ⟨_, run, _, List.Mem.tail _ (List.Mem.tail _ (List.Mem.tail _ (List.Mem.tail _ (List.Mem.head _)))), r, ov _ 0 rfl, ks_fin hon (fun C hC => by rw [List.mem_singleton.mp hC, ks_1]; omega)⟩
