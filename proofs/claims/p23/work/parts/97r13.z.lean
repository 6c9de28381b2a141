/-! answers alike; what holds at the start -/
theorem zz_keep2 {pl : Nat → Nat} {mk xi : Nat → Int} {rc : Int} {M M1 M2 : nt_M} (hS : ly_S pl mk xi rc M) (f1 : ly_fr 66 pl M M1) (f2 : ly_fr 66 pl M1 M2) (t1 : zz_T zz_ok pl M M1) (t2 : zz_T zz_ok pl M1 M2) (h : zz_E pl M) : zz_E pl M2 := zz_keep (ly_S_fr f1 hS) f2 t2 (zz_keep hS f1 t1 h)
theorem zz_16 {pl : Nat → Nat} {M : nt_M} (h : lq_E pl M) : nt_I M (pl 16) 4 = nt_I M (pl 0) 2 := by
  obtain ⟨t, n, _, _, _, _, _, _, a, b⟩ := h
  rw [a, b]
theorem zz_17 {pl : Nat → Nat} {M : nt_M} (h : lq_E pl M) : nt_I M (pl 17) 1 = nt_I M (pl 0) 1 := by
  obtain ⟨t, n, _, _, a, b, _⟩ := h
  rw [a, b]
theorem zz_o1 {X : nt_X} {K : sx_K} {ok : Nat → Bool} {pl : Nat → Nat} {v : Nat → Int} {M : nt_M} {o : Option Value × nt_M} {d g dl rv : Nat} {lo hi : Int} {mo : List (Nat × Int × Int)} {rm : List (Nat × Nat)} (a : Int32) (h1 : lo ≤ a.toInt) (h2 : a.toInt ≤ hi) (hK : sx_KOK X (sx_tbs, sx_gps) K) (hKe : K = (g, dl, ly_D ++ [], (mo, rm), [(2, rv, (0, [])), (0, 0, (0, [(11, 1)]))], (ly_C ++ [], ly_R ++ [], (ly_b ++ [(11, lo, hi)], []), 12), [(some (0, 0, (0, [(12, 1)])), (ly_C, ly_R, ([(12, -2147483648, 2147483647)], []), 12 + 1))])) (hmo : mo.all (fun q => !ok q.1) = true) (hd : dl ≤ d) (hB : ly_B pl v M) (k : nt_ev X d g [.ref (pl rv), .int a] M o) : zz_T ok pl M o.2 := by
  obtain ⟨r, hr, h11⟩ : ∃ r : Nat → Int, (∀ s, s < 11 → r s = v s) ∧ r 11 = a.toInt := ⟨fun s => if s = 11 then a.toInt else v s, fun s hs => by dsimp only; rw [if_neg (by omega)], rfl⟩
  exact zz_gen (vs := [.ref (pl rv), .int a]) (ec := []) (r := r) hK hKe hmo hd hB hr ⟨rfl, ⟨a, rfl, (ly_e1 h11).symm⟩, trivial⟩ (fun q hq => by cases hq) (ly_oba (ly_obr hr (ly_ob hB)) (ly_ob1 (by omega))) ly_oc0 k
theorem zz_mk {pl : Nat → Nat} {v : Nat → Int} {M : nt_M} {k : Nat} (hB : ly_B pl v M) (hk : k < 4) : (nt_I M (pl 15) k).toInt = v (3 + k) := by
  rcases (by omega : k = 0 ∨ k = 1 ∨ k = 2 ∨ k = 3) with rfl | rfl | rfl | rfl
  · exact ly_cell (g := 15) (j := 0) (u := 3) hB (by decide) (List.mem_of_getElem? (i := 3) rfl)
  · exact ly_cell (g := 15) (j := 1) (u := 4) hB (by decide) (List.mem_of_getElem? (i := 4) rfl)
  · exact ly_cell (g := 15) (j := 2) (u := 5) hB (by decide) (List.mem_of_getElem? (i := 5) rfl)
  · exact ly_cell (g := 15) (j := 3) (u := 6) hB (by decide) (List.mem_of_getElem? (i := 6) rfl)
theorem zz_15 {pl : Nat → Nat} {v : Nat → Int} {M : nt_M} {k : Nat} (hB : ly_B pl v M) (hk : k < 4) (h : v (3 + k) = 1) : ¬ nt_I M (pl 15) k = 0 := fun e => by
  have q := zz_mk hB hk
  rw [e, h] at q
  exact absurd q (by decide)
theorem zz_15N {pl : Nat → Nat} {v : Nat → Int} {M : nt_M} {k : Nat} (hB : ly_B pl v M) (hk : k < 4) (h : v (3 + k) = 0) : nt_I M (pl 15) k = 0 := Int32.toInt_inj.mp (by rw [zz_mk hB hk, h]; decide)
theorem zz_a_plank {X : nt_X} {pl : Nat → Nat} {v v1 : Nat → Int} {M M1 M2 : nt_M} {y1 y2 a b : Int32} (hB : ly_B pl v M) (hB1 : ly_B pl v1 M1) (e1 : nt_ev X 99 107 [.ref (pl 16), .int a, .int b] M (some (.int y1), M1)) (e2 : nt_ev X 99 176 [.ref (pl 0), .int a, .int b] M1 (some (.int y2), M2)) (hZ : zz_E pl M) : y1 = y2 := by
  obtain ⟨y1e, M1e⟩ := lq_out (xt107 (p := pl) (J := nt_I M) (zz_P hB) (zz_Qn hB) e1)
  have i1 : nt_I M1 = nt_I M := by rw [M1e]; rfl
  obtain ⟨y2e, _⟩ := lq_out (xt176 (p := pl) (J := nt_I M1) (zz_P hB1) e2)
  rw [y1e, y2e, i1]
  exact zq_107 hZ.1.1 hZ.1.2.1
theorem zz_a_voyage {X : nt_X} {pl : Nat → Nat} {v v1 : Nat → Int} {M M1 M2 : nt_M} {y1 y2 a b : Int32} (hB : ly_B pl v M) (hB1 : ly_B pl v1 M1) (e1 : nt_ev X 99 108 [.ref (pl 16), .int a, .int b] M (some (.int y1), M1)) (e2 : nt_ev X 99 178 [.ref (pl 0), .int a, .int b] M1 (some (.int y2), M2)) (hZ : zz_E pl M) : y1 = y2 := by
  obtain ⟨y1e, M1e⟩ := lq_out (xt108 (p := pl) (J := nt_I M) (zz_P hB) (zz_Qn hB) e1)
  have i1 : nt_I M1 = nt_I M := by rw [M1e]; rfl
  obtain ⟨y2e, _⟩ := lq_out (xt178 (p := pl) (J := nt_I M1) (zz_P hB1) e2)
  rw [y1e, y2e, i1]
  exact zq_108 hZ.1.1 hZ.1.2.1
theorem zz_a_count {X : nt_X} {pl : Nat → Nat} {v v1 : Nat → Int} {M M1 M2 : nt_M} {y1 y2 a : Int32} (hB : ly_B pl v M) (hB1 : ly_B pl v1 M1) (hx : v 0 = v 1) (hE : lq_E pl M) (e1 : nt_ev X 99 126 [.ref (pl 16), .int a] M (some (.int y1), M1)) (e2 : nt_ev X 99 233 [.ref (pl 0), .int a] M1 (some (.int y2), M2)) (hZ : zz_E pl M) : y1 = y2 := by
  obtain ⟨y1e, M1e⟩ := lq_out (xt126 (p := pl) (J := nt_I M) (zz_P hB) (zz_Qn hB) e1)
  have i1 : nt_I M1 = nt_I M := by rw [M1e]; rfl
  obtain ⟨y2e, _⟩ := lq_out (xt233 (p := pl) (J := nt_I M1) (zz_P hB1) e2)
  rw [y1e, y2e, i1]
  exact zq_126 hZ.1.1 hZ.1.2.1 hZ.1.2.2.2 (zz_16 hE) (zz_17 hE) (zz_x hB hx)
theorem zz_a_same {X : nt_X} {pl : Nat → Nat} {v v1 : Nat → Int} {M M1 M2 : nt_M} {y1 y2 a b : Int32} (hB : ly_B pl v M) (hB1 : ly_B pl v1 M1) (e1 : nt_ev X 99 119 [.ref (pl 16), .int a, .int b] M (some (.int y1), M1)) (e2 : nt_ev X 99 217 [.ref (pl 0), .int a, .int b] M1 (some (.int y2), M2)) (hZ : zz_E pl M) : y1 = y2 := by
  obtain ⟨y1e, M1e⟩ := lq_out (xt119 (p := pl) (J := nt_I M) (zz_P hB) (zz_Qn hB) e1)
  have i1 : nt_I M1 = nt_I M := by rw [M1e]; rfl
  obtain ⟨y2e, _⟩ := lq_out (xt217 (p := pl) (J := nt_I M1) (zz_P hB1) e2)
  rw [y1e, y2e, i1]
  exact zq_119 hZ.1.1 hZ.1.2.1
theorem zz_a_unlike {X : nt_X} {pl : Nat → Nat} {v v1 : Nat → Int} {M M1 M2 : nt_M} {y1 y2 : Int32} (hB : ly_B pl v M) (hB1 : ly_B pl v1 M1) (e1 : nt_ev X 99 120 [.ref (pl 16)] M (some (.int y1), M1)) (e2 : nt_ev X 99 221 [.ref (pl 0)] M1 (some (.int y2), M2)) (hZ : zz_E pl M) : y1 = y2 := by
  obtain ⟨y1e, M1e⟩ := lq_out (xt120 (p := pl) (J := nt_I M) (zz_P hB) (zz_Qn hB) e1)
  have i1 : nt_I M1 = nt_I M := by rw [M1e]; rfl
  obtain ⟨y2e, _⟩ := lq_out (xt221 (p := pl) (J := nt_I M1) (zz_P hB1) e2)
  rw [y1e, y2e, i1]
  exact zq_120 hZ.1.1 hZ.1.2.1
/-- the start -/
theorem zz_io_n : (List.range 6).all (fun k => (match ly_rl ly_io 7 k with | some _ => false | none => true)) = true := by decide +kernel
theorem zz_E0 {M : nt_M} (hM : M = ly_fo 0 nt_M0 ly_io) (hB : ly_B ly_p0 (fun _ => 0) M) (hS : ly_S ly_p0 (fun _ => 0) (fun _ => 0) 0 M) : zz_E ly_p0 M := by
  have h0 : nt_n nt_M0 = 0 := rfl
  have z : ∀ i j, i < 66 → nt_I M i j = 0 := fun i j hi => by
    have := ly_fo_I (n := 0) (M := nt_M0) (i := i) h0 ly_io (by rw [ly_io_c]; exact hi) j
    rw [Nat.zero_add, ← hM] at this
    exact this
  have lt : ∀ g, g < 66 → ly_p0 g < 66 := fun g hg => Nat.blt_eq.mp (List.all_eq_true.mp ly_p0_lt g (List.mem_range.mpr hg))
  have z4 : ∀ j, nt_I M (ly_p0 4) j = 0 := fun j => z _ j (lt 4 (by omega))
  have n0 : ∀ i, zn (nt_I M (ly_p0 4)) i = 0 := fun i => by
    unfold zn
    rw [z4]
    rfl
  have t0 : (0 : Int32).toInt = 0 := by decide
  refine ⟨⟨⟨fun j hj => ?_, ?_⟩, ⟨zz_W hB, ⟨?_, fun s hs => ?_, fun s hs => ?_, fun s hs => ?_, fun s hs => ?_⟩, ⟨fun s hs => ?_, fun s hs => ?_⟩, ⟨fun s hs => ?_, fun s hs => ?_, fun s hs => ?_, fun s hs => ?_⟩, ⟨?_, ?_, fun s hs => ?_⟩⟩, ?_, ?_⟩, fun k hk a ha => ?_, fun u b hu hb => ?_⟩
  · have := zc_17 j (zv_lt hj)
    dsimp only
    rw [z4, z _ _ (lt _ (by omega))]
  · dsimp only
    rw [z4, z _ _ (lt _ (by omega)), if_pos rfl]
  · rw [z4, t0]
    omega
  · rw [n0] at hs
    omega
  · rw [n0] at hs
    omega
  · rw [n0] at hs
    omega
  · rw [n0] at hs
    omega
  · rw [n0] at hs
    omega
  · rw [n0] at hs
    omega
  · rw [n0] at hs
    omega
  · rw [n0] at hs
    omega
  · rw [n0] at hs
    omega
  · rw [n0] at hs
    omega
  · rw [z4, z4, t0]
    omega
  · rw [z4, t0]
    omega
  · rw [n0] at hs
    omega
  · rw [z4, t0]
    omega
  · intro _
    rw [z4, z4]
  · exfalso
    obtain ⟨_, _, T, t1, _⟩ := hS
    rcases t1 k hk with ⟨c, _⟩ | ⟨_, _, c, _⟩
    · rw [ha] at c
      cases c
    · exact absurd (show (0 : Int) = 1 from c) (by decide)
  · exfalso
    have r := ly_fo_R (n := 0) (M := nt_M0) (i := 7) h0 ly_io (by rw [ly_io_c]; decide) u
    rw [Nat.zero_add, ← hM] at r
    have l := List.all_eq_true.mp zz_io_n u (List.mem_range.mpr hu)
    have hb : nt_R M 7 u = some b := hb
    rw [hb] at r
    cases hr : ly_rl ly_io 7 u with
    | none => rw [hr] at r; cases r
    | some b => rw [hr] at l; cases l
