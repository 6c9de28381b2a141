def kk_bits : sx_K := (214, 0, [], ([], []), [(0, 0, (0, [(0, 1)]))], ([], [], ([(0, (-2147483648), 2147483647)], []), 1), [(some (0, 0, (0, [(1, 1)])), ([], [], ([(1, (-2147483648), 2147483647)], []), 2))])
/-! bits, by hand: the set gets less with each turn -/
theorem kb_and {s : Int32} (h : ¬ s = 0) : (s &&& (s - 1)).toBitVec.toNat < s.toBitVec.toNat := by
  have h0 : s.toBitVec.toNat ≠ 0 := by
    intro e
    apply h
    apply Int32.toBitVec_inj.mp
    apply BitVec.eq_of_toNat_eq
    rw [e]; rfl
  have e : (s &&& (s - 1)).toBitVec.toNat = s.toBitVec.toNat &&& (s - 1).toBitVec.toNat := by
    show (s.toBitVec &&& (s - 1).toBitVec).toNat = _
    rw [BitVec.toNat_and]
  have e2 : (s - 1).toBitVec.toNat = s.toBitVec.toNat - 1 := by
    show (s.toBitVec - (1 : Int32).toBitVec).toNat = _
    rw [BitVec.toNat_sub]
    have := s.toBitVec.isLt
    rw [show (1 : Int32).toBitVec.toNat = 1 from rfl]
    omega
  have := Nat.and_le_right (n := s.toBitVec.toNat) (m := (s - 1).toBitVec.toNat)
  rw [e, e2] at *
  omega
theorem kb_loop (X : nt_X) (d : Nat) (M : nt_M) (x : Int32) : ∀ (n : Nat) (s acc : Int32), s.toBitVec.toNat < n → ∃ k : Int32, nt_rn X d 214 (4, [(2, .int s), (1, .int acc), (0, .int x)], [], M) (some (.int k), M)
  | 0, s, acc, h => by omega
  | n + 1, s, acc, h => by
    by_cases hs : s = 0
    · refine ⟨acc, ?_⟩
      refine nt_rn_b 2 (c' := (if s = 0 then 20 else 8, [(2, .int s), (1, .int acc), (0, .int x)], [], M)) rfl ?_
      rw [if_pos hs]
      refine nt_rn_b 1 (c' := (21, [(2, .int s), (1, .int acc), (0, .int x)], [.int acc], M)) rfl ?_
      exact nt_rn_ri (e := (21, .ireturn, 0, 0)) rfl rfl rfl rfl rfl
    · obtain ⟨k, hk⟩ := kb_loop X d M x n (s &&& (s - 1)) (acc + Int32.ofInt 1) (by have := kb_and hs; omega)
      refine ⟨k, ?_⟩
      refine nt_rn_b 2 (c' := (if s = 0 then 20 else 8, [(2, .int s), (1, .int acc), (0, .int x)], [], M)) rfl ?_
      rw [if_neg hs]
      exact nt_rn_b 8 (c' := (4, [(2, .int (s &&& (s - 1))), (1, .int (acc + Int32.ofInt 1)), (0, .int x)], [], M)) rfl hk
theorem ko_bits (X : nt_X) : sx_KOK X (sx_tbs, []) kk_bits := by
  intro F r vs M d hd hM hr hG hargs hon
  obtain ⟨v, u, rfl, ⟨x, rfl, hx⟩, hu⟩ := sx_os_c hargs
  cases u with
  | cons _ _ => exact hu.elim
  | nil =>
    obtain ⟨k, hk⟩ := kb_loop X d M x (x.toBitVec.toNat + 1) x (Int32.ofInt 0) (by omega)
    refine ⟨(some (.int k), M), ?_, _, List.mem_cons_self .., sx_ud r 1 k.toInt, ?_, ?_⟩
    · exact nt_rn_b 4 (c' := (4, [(2, .int x), (1, .int (Int32.ofInt 0)), (0, .int x)], [], M)) rfl hk
    · refine ⟨k, rfl, ?_⟩
      show k.toInt = sx_e _ (0, [(1, 1)])
      rw [sx_s_e]
      exact (if_pos rfl).symm
    · obtain ⟨y0, y1, y2, y3, y4, y5, y6⟩ := hon
      refine ⟨y0, y1, fun q hq => (by cases hq), fun q hq => (by cases hq), ⟨fun q hq => ?_, fun q hq => (by cases hq)⟩, fun s hs => ?_, y6⟩
      · rw [List.mem_singleton.mp hq]
        have a := k.le_toInt
        have b := k.toInt_lt
        show -2147483648 ≤ sx_ud r 1 k.toInt 1 ∧ sx_ud r 1 k.toInt 1 ≤ 2147483647
        unfold sx_ud
        rw [if_pos rfl]
        omega
      · have hs : s < 1 := hs
        rw [← y5 s hs]
        exact if_neg (by omega)
