section
/-! answers alike; what holds at the start -/
theorem zz_keep2 {pl : Nat → Nat} {mk xi : Nat → Int} {rc : Int} {M M1 M2 : nt_M} (hS : ly_S pl mk xi rc M) (f1 : ly_fr 66 pl M M1) (f2 : ly_fr 66 pl M1 M2) (t1 : zz_T zz_ok pl M M1) (t2 : zz_T zz_ok pl M1 M2) (h : zz_E pl M) : zz_E pl M2 := zz_keep (ly_S_fr f1 hS) f2 t2 (zz_keep hS f1 t1 h)
theorem zz_16 {pl : Nat → Nat} {M : nt_M} (h : lq_E pl M) : nt_I M (pl 16) 4 = nt_I M (pl 0) 2 := by
  obtain ⟨t, n, _, _, _, _, _, _, a, b⟩ := h
  rw [a, b]
theorem zz_17 {pl : Nat → Nat} {M : nt_M} (h : lq_E pl M) : nt_I M (pl 17) 1 = nt_I M (pl 0) 1 := by
  obtain ⟨t, n, _, _, a, b, _⟩ := h
  rw [a, b]
theorem zz_o1 {X : nt_X} {K : sx_K} {ok : Nat → Bool} {pl : Nat → Nat} {v : Nat → Int} {M : nt_M} {o : Option Value × nt_M} {d g dl rv : Nat} {lo hi : Int} {mo : List (Nat × Int × Int)} {rm : List (Nat × Nat)} (a : Int32) (h1 : lo ≤ a.toInt) (h2 : a.toInt ≤ hi) (hK : sx_KOK X (sx_tbs, sx_gps) K) (hKe : K = (g, dl, ly_D ++ [], (mo, rm), [(2, rv, (0, [])), (0, 0, (0, [(11, 1)]))], (ly_C ++ [], ly_R ++ [], (ly_b ++ [(11, lo, hi)], []), 12), [(some (0, 0, (0, [(12, 1)])), (ly_C, ly_R, ([(12, -2147483648, 2147483647)], []), 12 + 1))])) (hmo : mo.all (fun q => !ok q.1) = true) (hd : dl ≤ d) (hB : ly_B pl v M) (k : nt_ev X d g [.ref (pl rv), .int a] M o) : zz_T ok pl M o.2 := by
  obtain ⟨r, hr, h11⟩ : ∃ r : Nat → Int, (∀ s, s < 11 → r s = v s) ∧ r 11 = a.toInt := ⟨fun s => if s = 11 then a.toInt else v s, fun s hs => by dsimp only; rw [if_neg (by omega)], rfl⟩
  exact zz_gen (vs := [.ref (pl rv), .int a]) (ec := []) (r := r) hK hKe hmo hd hB hr ⟨rfl, ⟨a, rfl, (ly_e1 h11).symm⟩, trivial⟩ (fun q hq => by cases hq) (ly_oba (ly_obr hr (ly_ob hB)) (ly_ob1 (by omega))) ly_oc0 k
theorem zz_mk {pl : Nat → Nat} {v : Nat → Int} {M : nt_M} {k : Nat} (hB : ly_B pl v M) (hk : k < 4) : (nt_I M (pl 15) k).toInt = v (3 + k) := by
  rcases (by omega : k = 0 ∨ k = 1 ∨ k = 2 ∨ k = 3) with rfl | rfl | rfl | rfl
  · exact ly_cell (g := 15) (j := 0) (u := 3) hB (by decide) (List.mem_of_getElem? (i := 3) rfl)
  · exact ly_cell (g := 15) (j := 1) (u := 4) hB (by decide) (List.mem_of_getElem? (i := 4) rfl)
  · exact ly_cell (g := 15) (j := 2) (u := 5) hB (by decide) (List.mem_of_getElem? (i := 5) rfl)
  · exact ly_cell (g := 15) (j := 3) (u := 6) hB (by decide) (List.mem_of_getElem? (i := 6) rfl)
theorem zz_15 {pl : Nat → Nat} {v : Nat → Int} {M : nt_M} {k : Nat} (hB : ly_B pl v M) (hk : k < 4) (h : v (3 + k) = 1) : ¬ nt_I M (pl 15) k = 0 := fun e => by
  have q := zz_mk hB hk
  rw [e, h] at q
  exact absurd q (by decide)
theorem zz_15N {pl : Nat → Nat} {v : Nat → Int} {M : nt_M} {k : Nat} (hB : ly_B pl v M) (hk : k < 4) (h : v (3 + k) = 0) : nt_I M (pl 15) k = 0 := Int32.toInt_inj.mp (by rw [zz_mk hB hk, h]; decide)
theorem zz_a_plank {X : nt_X} {pl : Nat → Nat} {v v1 : Nat → Int} {M M1 M2 : nt_M} {y1 y2 a b : Int32} (hB : ly_B pl v M) (hB1 : ly_B pl v1 M1) (e1 : nt_ev X 99 107 [.ref (pl 16), .int a, .int b] M (some (.int y1), M1)) (e2 : nt_ev X 99 176 [.ref (pl 0), .int a, .int b] M1 (some (.int y2), M2)) (hZ : zz_E pl M) : y1 = y2 := by
  obtain ⟨y1e, M1e⟩ := lq_out (xt107 (p := pl) (J := nt_I M) (zz_P hB) (zz_Qn hB) e1)
  have i1 : nt_I M1 = nt_I M := by rw [M1e]; rfl
  obtain ⟨y2e, _⟩ := lq_out (xt176 (p := pl) (J := nt_I M1) (zz_P hB1) e2)
  rw [y1e, y2e, i1]
  exact zq_107 hZ.1.1 hZ.1.2.1
theorem zz_a_voyage {X : nt_X} {pl : Nat → Nat} {v v1 : Nat → Int} {M M1 M2 : nt_M} {y1 y2 a b : Int32} (hB : ly_B pl v M) (hB1 : ly_B pl v1 M1) (e1 : nt_ev X 99 108 [.ref (pl 16), .int a, .int b] M (some (.int y1), M1)) (e2 : nt_ev X 99 178 [.ref (pl 0), .int a, .int b] M1 (some (.int y2), M2)) (hZ : zz_E pl M) : y1 = y2 := by
  obtain ⟨y1e, M1e⟩ := lq_out (xt108 (p := pl) (J := nt_I M) (zz_P hB) (zz_Qn hB) e1)
  have i1 : nt_I M1 = nt_I M := by rw [M1e]; rfl
  obtain ⟨y2e, _⟩ := lq_out (xt178 (p := pl) (J := nt_I M1) (zz_P hB1) e2)
  rw [y1e, y2e, i1]
  exact zq_108 hZ.1.1 hZ.1.2.1
theorem zz_a_count {X : nt_X} {pl : Nat → Nat} {v v1 : Nat → Int} {M M1 M2 : nt_M} {y1 y2 a : Int32} (hB : ly_B pl v M) (hB1 : ly_B pl v1 M1) (hx : v 0 = v 1) (hE : lq_E pl M) (e1 : nt_ev X 99 126 [.ref (pl 16), .int a] M (some (.int y1), M1)) (e2 : nt_ev X 99 233 [.ref (pl 0), .int a] M1 (some (.int y2), M2)) (hZ : zz_E pl M) : y1 = y2 := by
  obtain ⟨y1e, M1e⟩ := lq_out (xt126 (p := pl) (J := nt_I M) (zz_P hB) (zz_Qn hB) e1)
  have i1 : nt_I M1 = nt_I M := by rw [M1e]; rfl
  obtain ⟨y2e, _⟩ := lq_out (xt233 (p := pl) (J := nt_I M1) (zz_P hB1) e2)
  rw [y1e, y2e, i1]
  exact zq_126 hZ.1.1 hZ.1.2.1 hZ.1.2.2.2 (zz_16 hE) (zz_17 hE) (zz_x hB hx)
theorem zz_a_same {X : nt_X} {pl : Nat → Nat} {v v1 : Nat → Int} {M M1 M2 : nt_M} {y1 y2 a b : Int32} (hB : ly_B pl v M) (hB1 : ly_B pl v1 M1) (e1 : nt_ev X 99 119 [.ref (pl 16), .int a, .int b] M (some (.int y1), M1)) (e2 : nt_ev X 99 217 [.ref (pl 0), .int a, .int b] M1 (some (.int y2), M2)) (hZ : zz_E pl M) : y1 = y2 := by
  obtain ⟨y1e, M1e⟩ := lq_out (xt119 (p := pl) (J := nt_I M) (zz_P hB) (zz_Qn hB) e1)
  have i1 : nt_I M1 = nt_I M := by rw [M1e]; rfl
  obtain ⟨y2e, _⟩ := lq_out (xt217 (p := pl) (J := nt_I M1) (zz_P hB1) e2)
  rw [y1e, y2e, i1]
  exact zq_119 hZ.1.1 hZ.1.2.1
theorem zz_a_unlike {X : nt_X} {pl : Nat → Nat} {v v1 : Nat → Int} {M M1 M2 : nt_M} {y1 y2 : Int32} (hB : ly_B pl v M) (hB1 : ly_B pl v1 M1) (e1 : nt_ev X 99 120 [.ref (pl 16)] M (some (.int y1), M1)) (e2 : nt_ev X 99 221 [.ref (pl 0)] M1 (some (.int y2), M2)) (hZ : zz_E pl M) : y1 = y2 := by
  obtain ⟨y1e, M1e⟩ := lq_out (xt120 (p := pl) (J := nt_I M) (zz_P hB) (zz_Qn hB) e1)
  have i1 : nt_I M1 = nt_I M := by rw [M1e]; rfl
  obtain ⟨y2e, _⟩ := lq_out (xt221 (p := pl) (J := nt_I M1) (zz_P hB1) e2)
  rw [y1e, y2e, i1]
  exact zq_120 hZ.1.1 hZ.1.2.1
/-- the start -/
theorem zz_io_n : (List.range 6).all (fun k => (match ly_rl ly_io 7 k with | some _ => false | none => true)) = true := by decide +kernel
theorem zz_E0 {M : nt_M} (hM : M = ly_fo 0 nt_M0 ly_io) (hB : ly_B ly_p0 (fun _ => 0) M) (hS : ly_S ly_p0 (fun _ => 0) (fun _ => 0) 0 M) : zz_E ly_p0 M := by
  have h0 : nt_n nt_M0 = 0 := rfl
  have z : ∀ i j, i < 66 → nt_I M i j = 0 := fun i j hi => by
    have := ly_fo_I (n := 0) (M := nt_M0) (i := i) h0 ly_io (by rw [ly_io_c]; exact hi) j
    rw [Nat.zero_add, ← hM] at this
    exact this
  have lt : ∀ g, g < 66 → ly_p0 g < 66 := fun g hg => Nat.blt_eq.mp (List.all_eq_true.mp ly_p0_lt g (List.mem_range.mpr hg))
  have z4 : ∀ j, nt_I M (ly_p0 4) j = 0 := fun j => z _ j (lt 4 (by omega))
  have n0 : ∀ i, zn (nt_I M (ly_p0 4)) i = 0 := fun i => by
    unfold zn
    rw [z4]
    rfl
  have t0 : (0 : Int32).toInt = 0 := by decide
  refine ⟨⟨⟨fun j hj => ?_, ?_⟩, ⟨zz_W hB, ⟨?_, fun s hs => ?_, fun s hs => ?_, fun s hs => ?_, fun s hs => ?_⟩, ⟨fun s hs => ?_, fun s hs => ?_⟩, ⟨fun s hs => ?_, fun s hs => ?_, fun s hs => ?_, fun s hs => ?_⟩, ⟨?_, ?_, fun s hs => ?_⟩⟩, ?_, ?_⟩, fun k hk a ha => ?_, fun u b hu hb => ?_⟩
  · have := zc_17 j (zv_lt hj)
    dsimp only
    rw [z4, z _ _ (lt _ (by omega))]
  · dsimp only
    rw [z4, z _ _ (lt _ (by omega)), if_pos rfl]
  · rw [z4, t0]
    omega
  · rw [n0] at hs
    omega
  · rw [n0] at hs
    omega
  · rw [n0] at hs
    omega
  · rw [n0] at hs
    omega
  · rw [n0] at hs
    omega
  · rw [n0] at hs
    omega
  · rw [n0] at hs
    omega
  · rw [n0] at hs
    omega
  · rw [n0] at hs
    omega
  · rw [n0] at hs
    omega
  · rw [z4, z4, t0]
    omega
  · rw [z4, t0]
    omega
  · rw [n0] at hs
    omega
  · rw [z4, t0]
    omega
  · intro _
    rw [z4, z4]
  · exfalso
    obtain ⟨_, _, T, t1, _⟩ := hS
    rcases t1 k hk with ⟨c, _⟩ | ⟨_, _, c, _⟩
    · rw [ha] at c
      cases c
    · exact absurd (show (0 : Int) = 1 from c) (by decide)
  · exfalso
    have r := ly_fo_R (n := 0) (M := nt_M0) (i := 7) h0 ly_io (by rw [ly_io_c]; decide) u
    rw [Nat.zero_add, ← hM] at r
    have l := List.all_eq_true.mp zz_io_n u (List.mem_range.mpr hu)
    have hb : nt_R M 7 u = some b := hb
    rw [hb] at r
    cases hr : ly_rl ly_io 7 u with
    | none => rw [hr] at r; cases r
    | some b => rw [hr] at l; cases l
end
section
/-! ahead, both sides -/
def zq_A {α β γ δ : Type} (a : Int32 × α × β) (b : Int32 × γ × δ) : Prop := a.1 = b.1
theorem z_j2 : (2 : Int64).toInt = 2 := by decide
theorem z_i2 {x : Int32} : x ≤ Int32.ofInt 2 ↔ x.toInt ≤ 2 := by
  rw [Int32.le_iff_toInt_le, show (Int32.ofInt 2).toInt = 2 from by decide]
theorem z48_R {p : Nat → Nat} {Jc Jr : Nat → Nat → Int32} (hp : zpd p) (hR : zR (fun i => p (31 + i)) Jc (Jr (p 4))) : zR (fun i => p (48 + i)) (x80 (fun i => p (48 + i)) (fun i => p (31 + i)) Jc) (x227 p Jr (p 4)) := by
  rw [x227_frJ (hp 4 7 (by omega) (by omega) (by omega))]
  exact zR_copy (fun i j hi hj e => hp (48 + i) (48 + j) (by omega) (by omega) (by omega)) hR
theorem z48_f {p : Nat → Nat} {J : Nat → Nat → Int32} {a : Nat} (h : ∀ i, i < 17 → a ≠ p (48 + i)) : x80 (fun i => p (48 + i)) (fun i => p (31 + i)) J a = J a := x80_frJ (h 0 (by omega)) (h 1 (by omega)) (h 2 (by omega)) (h 3 (by omega)) (h 4 (by omega)) (h 5 (by omega)) (h 6 (by omega)) (h 7 (by omega)) (h 8 (by omega)) (h 9 (by omega)) (h 10 (by omega)) (h 11 (by omega)) (h 12 (by omega)) (h 13 (by omega)) (h 14 (by omega)) (h 15 (by omega)) (h 16 (by omega))
theorem zq_123 {p : Nat → Nat} {v1 v2 v3 : Int32} {sp ln T : Nat} {Jc Jr : Nat → Nat → Int32} {Lc Lr : Nat → Nat → Int64} (hsq : ∀ i, i < 17 → sp ≠ p (48 + i)) (ht : v1.toInt = (T : Nat)) (hQ : zRQ p sp ln T Jc Jr) (X : zX p (fun i => p (48 + i))) (hR : zR (fun i => p (31 + i)) Jc (Jr (p 4))) (hW : zW (Jr (p 4)) (Jr (p 4) 4).toInt) (hd : (Jr (p 4) 4).toInt ≤ 200) (h4 : Jc (p 16) 4 = Jr (p 0) 2) (h0 : 0 ≤ (Jr (p 0) 2).toInt) : zq_A (x123 p sp ln v1 v2 v3 Jc Lc) (x226 p v1 v2 v3 Jr Lr) := by
  have may := zmay (q := fun i => p (31 + i)) (v1 := v1) hR hW.w h4 h0
  have hp := X.hp
  have n47 : p 4 ≠ p 7 := hp 4 7 (by omega) (by omega) (by omega)
  have same : ∀ y : Int32, zq_A ((y, Jc, Lc) : Int32 × (Nat → Nat → Int32) × (Nat → Nat → Int64)) (y, Jr, Lr) := fun y => rfl
  unfold x123 x226
  by_cases hm : x187 p v1 Jr = 0
  · rw [if_pos hm]
    by_cases a : Jc (p 31) 1 = 0
    · rw [if_pos a]
      exact same _
    · rw [if_neg a, if_pos (Classical.byContradiction fun c => may.mp ⟨a, c⟩ hm)]
      exact same _
  · obtain ⟨a, b⟩ := may.mpr hm
    have a : ¬ Jc (p 31) 1 = 0 := a
    rw [if_neg hm, if_neg a, if_neg b, z_145, z_145, z_j0, z_j100, z_j2]
    by_cases c1 : v2.toInt < 0
    · rw [if_pos (z_i0.mpr c1), if_pos (show v2.toInt < 0 ∨ 100 < v2.toInt from Or.inl c1), if_pos (show Int32.ofInt 0 = 0 from rfl)]
      exact same _
    · rw [if_neg (fun h => c1 (z_i0.mp h))]
      by_cases c2 : 100 < v2.toInt
      · rw [if_pos (z_i100.mpr c2), if_pos (show v2.toInt < 0 ∨ 100 < v2.toInt from Or.inr c2), if_pos (show Int32.ofInt 0 = 0 from rfl)]
        exact same _
      · rw [if_neg (fun h => c2 (z_i100.mp h)), if_neg (show ¬ (v2.toInt < 0 ∨ 100 < v2.toInt) from by omega), if_neg (show ¬ Int32.ofInt 1 = 0 from by decide)]
        by_cases c3 : v3.toInt < 0
        · rw [if_pos (z_i0.mpr c3), if_pos (show v3.toInt < 0 ∨ 2 < v3.toInt from Or.inl c3), if_pos (show Int32.ofInt 0 = 0 from rfl)]
          exact same _
        · rw [if_neg (fun h => c3 (z_i0.mp h))]
          by_cases c4 : 2 < v3.toInt
          · rw [if_neg (fun h => by have := z_i2.mp h; omega), if_pos (show v3.toInt < 0 ∨ 2 < v3.toInt from Or.inr c4), if_pos (show Int32.ofInt 0 = 0 from rfl)]
            exact same _
          · rw [if_pos (z_i2.mpr (by omega)), if_neg (show ¬ (v3.toInt < 0 ∨ 2 < v3.toInt) from by omega), if_neg (show ¬ Int32.ofInt 1 = 0 from by decide)]
            have z0 : (Int32.ofInt 0).toInt = 0 := by decide
            have cl : v2.toInt - (Int32.ofInt 0).toInt ≤ (v2.toNatClampNeg : Nat) := by
              rw [zn_t, z0]
              omega
            have r4 : x227 p Jr (p 4) = Jr (p 4) := x227_frJ n47
            have R := z48_R hp hR
            have W : zW (x227 p Jr (p 4)) (x227 p Jr (p 4) 4).toInt := by
              rw [r4]
              exact hW
            have f31 : x80 (fun i => p (48 + i)) (fun i => p (31 + i)) Jc (p 31) = Jc (p 31) := z48_f (fun i hi => hp 31 (48 + i) (by omega) (by omega) (by omega))
            have h5 : x80 (fun i => p (48 + i)) (fun i => p (31 + i)) Jc (p 31) 5 = x227 p Jr (p 7) 7 := by
              rw [f31, zkp n47 (by omega)]
              exact zR_7 hR
            have h48 : x80 (fun i => p (48 + i)) (fun i => p (31 + i)) Jc (p 31) 4 = x227 p Jr (p 7) 8 := by
              rw [f31, zkp n47 (by omega)]
              exact zR_8 hR
            have Q : zRQ p sp ln T (x80 (fun i => p (48 + i)) (fun i => p (31 + i)) Jc) (x227 p Jr) := zRQ_ag hQ (z48_f hsq) (x227_frJ (hp 1 7 (by omega) (by omega) (by omega))) (x227_frJ (hp 2 7 (by omega) (by omega) (by omega))) (x227_frJ (hp 3 7 (by omega) (by omega) (by omega)))
            exact zahead_l hsq ht X v2.toNatClampNeg (Int32.ofInt 0) _ _ Lc Lr (by decide) (by omega) cl (by rw [r4]; omega) R W h5 h48 Q
theorem zq_123N {p : Nat → Nat} {v1 v2 v3 : Int32} {Jc Jr : Nat → Nat → Int32} {Lr : Nat → Nat → Int64} (hv : v1 < 0) (X : zX p (fun i => p (48 + i))) (hR : zR (fun i => p (31 + i)) Jc (Jr (p 4))) (hW : zW (Jr (p 4)) (Jr (p 4) 4).toInt) (hd : (Jr (p 4) 4).toInt ≤ 200) (h4 : Jc (p 16) 4 = Jr (p 0) 2) (h0 : 0 ≤ (Jr (p 0) 2).toInt) : zq_A (((x123N p v1 v2 v3 Jc).1, (x123N p v1 v2 v3 Jc).2, Lr)) (x226 p v1 v2 v3 Jr Lr) := by
  have may := zmay (q := fun i => p (31 + i)) (v1 := v1) hR hW.w h4 h0
  have hp := X.hp
  have n47 : p 4 ≠ p 7 := hp 4 7 (by omega) (by omega) (by omega)
  have same : ∀ y : Int32, zq_A ((y, Jc, Lr) : Int32 × (Nat → Nat → Int32) × (Nat → Nat → Int64)) (y, Jr, Lr) := fun y => rfl
  unfold x123N x226
  by_cases hm : x187 p v1 Jr = 0
  · rw [if_pos hm]
    by_cases a : Jc (p 31) 1 = 0
    · rw [if_pos a]
      exact same _
    · rw [if_neg a, if_pos (Classical.byContradiction fun c => may.mp ⟨a, c⟩ hm)]
      exact same _
  · obtain ⟨a, b⟩ := may.mpr hm
    have a : ¬ Jc (p 31) 1 = 0 := a
    rw [if_neg hm, if_neg a, if_neg b, z_145, z_145, z_j0, z_j100, z_j2]
    by_cases c1 : v2.toInt < 0
    · rw [if_pos (z_i0.mpr c1), if_pos (show v2.toInt < 0 ∨ 100 < v2.toInt from Or.inl c1), if_pos (show Int32.ofInt 0 = 0 from rfl)]
      exact same _
    · rw [if_neg (fun h => c1 (z_i0.mp h))]
      by_cases c2 : 100 < v2.toInt
      · rw [if_pos (z_i100.mpr c2), if_pos (show v2.toInt < 0 ∨ 100 < v2.toInt from Or.inr c2), if_pos (show Int32.ofInt 0 = 0 from rfl)]
        exact same _
      · rw [if_neg (fun h => c2 (z_i100.mp h)), if_neg (show ¬ (v2.toInt < 0 ∨ 100 < v2.toInt) from by omega), if_neg (show ¬ Int32.ofInt 1 = 0 from by decide)]
        by_cases c3 : v3.toInt < 0
        · rw [if_pos (z_i0.mpr c3), if_pos (show v3.toInt < 0 ∨ 2 < v3.toInt from Or.inl c3), if_pos (show Int32.ofInt 0 = 0 from rfl)]
          exact same _
        · rw [if_neg (fun h => c3 (z_i0.mp h))]
          by_cases c4 : 2 < v3.toInt
          · rw [if_neg (fun h => by have := z_i2.mp h; omega), if_pos (show v3.toInt < 0 ∨ 2 < v3.toInt from Or.inr c4), if_pos (show Int32.ofInt 0 = 0 from rfl)]
            exact same _
          · rw [if_pos (z_i2.mpr (by omega)), if_neg (show ¬ (v3.toInt < 0 ∨ 2 < v3.toInt) from by omega), if_neg (show ¬ Int32.ofInt 1 = 0 from by decide)]
            have z0 : (Int32.ofInt 0).toInt = 0 := by decide
            have cl : v2.toInt - (Int32.ofInt 0).toInt ≤ (v2.toNatClampNeg : Nat) := by
              rw [zn_t, z0]
              omega
            have r4 : x227 p Jr (p 4) = Jr (p 4) := x227_frJ n47
            have R := z48_R hp hR
            have W : zW (x227 p Jr (p 4)) (x227 p Jr (p 4) 4).toInt := by
              rw [r4]
              exact hW
            have f31 : x80 (fun i => p (48 + i)) (fun i => p (31 + i)) Jc (p 31) = Jc (p 31) := z48_f (fun i hi => hp 31 (48 + i) (by omega) (by omega) (by omega))
            have h5 : x80 (fun i => p (48 + i)) (fun i => p (31 + i)) Jc (p 31) 5 = x227 p Jr (p 7) 7 := by
              rw [f31, zkp n47 (by omega)]
              exact zR_7 hR
            have h48 : x80 (fun i => p (48 + i)) (fun i => p (31 + i)) Jc (p 31) 4 = x227 p Jr (p 7) 8 := by
              rw [f31, zkp n47 (by omega)]
              exact zR_8 hR
            have ev : v1 = Int32.ofInt (-1) := by
              unfold x111 at b
              by_cases g : v1 < Int32.ofInt (-1)
              · rw [if_pos g] at b
                exact absurd rfl b
              · have g1 : ¬ v1.toInt < (Int32.ofInt (-1)).toInt := fun h => g (Int32.lt_iff_toInt_lt.mpr h)
                have g2 := z_i0.mp hv
                rw [show (Int32.ofInt (-1)).toInt = -1 from by decide] at g1
                exact Int32.toInt_inj.mp (by rw [show (Int32.ofInt (-1)).toInt = -1 from by decide]; omega)
            rw [ev]
            exact zaheadN_l X v2.toNatClampNeg (Int32.ofInt 0) _ _ Lr (by decide) (by omega) cl (by rw [r4]; omega) R W h5 h48
theorem zz_aheadF {X : nt_X} {pl : Nat → Nat} {v mk xi : Nat → Int} {M M1 : nt_M} {y1 a b c : Int32} (hB : ly_B pl v M) (hS : ly_S pl mk xi (v 2) M) (e1 : nt_ev X 99 123 [.ref (pl 16), .int a, .int b, .int c] M (some (.int y1), M1)) (hZ : zz_E pl M) : ∀ g, g < 48 → g ≠ 25 → nt_I M1 (pl g) = nt_I M (pl g) := by
  have ne := zz_ne hB
  intro g hg z
  by_cases hn : a < 0
  · have c1 := xt123N (p := pl) (J := nt_I M) (zz_P hB) (zz_Qn hB) (zz_Qm hB) (zz_Nm hB) hn e1
    rw [(lq_out c1).2]
    exact x123N_frJ (ne g 48 (by omega) (by omega) (by omega)) (ne g 49 (by omega) (by omega) (by omega)) (ne g 50 (by omega) (by omega) (by omega)) (ne g 51 (by omega) (by omega) (by omega)) (ne g 52 (by omega) (by omega) (by omega)) (ne g 53 (by omega) (by omega) (by omega)) (ne g 54 (by omega) (by omega) (by omega)) (ne g 55 (by omega) (by omega) (by omega)) (ne g 56 (by omega) (by omega) (by omega)) (ne g 57 (by omega) (by omega) (by omega)) (ne g 58 (by omega) (by omega) (by omega)) (ne g 59 (by omega) (by omega) (by omega)) (ne g 60 (by omega) (by omega) (by omega)) (ne g 61 (by omega) (by omega) (by omega)) (ne g 62 (by omega) (by omega) (by omega)) (ne g 63 (by omega) (by omega) (by omega)) (ne g 64 (by omega) (by omega) (by omega))
  · by_cases h1 : nt_I M (pl 16) 4 ≤ a
    · have hx : x111 pl a (nt_I M) = Int32.ofInt 0 := by
        unfold x111
        rw [if_pos h1]
        split <;> rfl
      have c1 := xt123H (p := pl) (J := nt_I M) (zz_P hB) (zz_Qn hB) hx e1
      rw [(lq_out c1).2]
      rfl
    · obtain ⟨rb, q1, q2, q3, q4, q5⟩ := zz_rule hB hS hZ hn h1
      have c1 := xt123 (p := pl) (J := nt_I M) (L := nt_J M) (zz_P hB) (zz_Qn hB) (zz_Qm hB) (zz_Nm hB) q3 hn q1 h1 e1
      rw [(lq_out c1).2]
      exact x123_frJ (ne g 25 (by omega) (by omega) (by omega)) (ne g 48 (by omega) (by omega) (by omega)) (ne g 49 (by omega) (by omega) (by omega)) (ne g 50 (by omega) (by omega) (by omega)) (ne g 51 (by omega) (by omega) (by omega)) (ne g 52 (by omega) (by omega) (by omega)) (ne g 53 (by omega) (by omega) (by omega)) (ne g 54 (by omega) (by omega) (by omega)) (ne g 55 (by omega) (by omega) (by omega)) (ne g 56 (by omega) (by omega) (by omega)) (ne g 57 (by omega) (by omega) (by omega)) (ne g 58 (by omega) (by omega) (by omega)) (ne g 59 (by omega) (by omega) (by omega)) (ne g 60 (by omega) (by omega) (by omega)) (ne g 61 (by omega) (by omega) (by omega)) (ne g 62 (by omega) (by omega) (by omega)) (ne g 63 (by omega) (by omega) (by omega)) (ne g 64 (by omega) (by omega) (by omega))
theorem zz_yearsF {X : nt_X} {pl : Nat → Nat} {v mk xi : Nat → Int} {M M1 : nt_M} {y1 a b c d e : Int32} (hB : ly_B pl v M) (hS : ly_S pl mk xi (v 2) M) (e1 : nt_ev X 99 125 [.ref (pl 16), .int a, .int b, .int c, .int d, .int e] M (some (.int y1), M1)) (hZ : zz_E pl M) : ∀ g, g < 48 → g ≠ 25 → nt_I M1 (pl g) = nt_I M (pl g) := by
  have ne := zz_ne hB
  intro g hg z
  by_cases hn : a < 0
  · have c1 := xt125N (p := pl) (J := nt_I M) (zz_P hB) (zz_Qn hB) (zz_Qm hB) (zz_Nm hB) hn e1
    rw [(lq_out c1).2]
    exact x125N_frJ (ne g 48 (by omega) (by omega) (by omega)) (ne g 49 (by omega) (by omega) (by omega)) (ne g 50 (by omega) (by omega) (by omega)) (ne g 51 (by omega) (by omega) (by omega)) (ne g 52 (by omega) (by omega) (by omega)) (ne g 53 (by omega) (by omega) (by omega)) (ne g 54 (by omega) (by omega) (by omega)) (ne g 55 (by omega) (by omega) (by omega)) (ne g 56 (by omega) (by omega) (by omega)) (ne g 57 (by omega) (by omega) (by omega)) (ne g 58 (by omega) (by omega) (by omega)) (ne g 59 (by omega) (by omega) (by omega)) (ne g 60 (by omega) (by omega) (by omega)) (ne g 61 (by omega) (by omega) (by omega)) (ne g 62 (by omega) (by omega) (by omega)) (ne g 63 (by omega) (by omega) (by omega)) (ne g 64 (by omega) (by omega) (by omega))
  · by_cases h1 : nt_I M (pl 16) 4 ≤ a
    · have hx : x111 pl a (nt_I M) = Int32.ofInt 0 := by
        unfold x111
        rw [if_pos h1]
        split <;> rfl
      have c1 := xt125H (p := pl) (J := nt_I M) (zz_P hB) (zz_Qn hB) hx e1
      rw [(lq_out c1).2]
      rfl
    · obtain ⟨rb, q1, q2, q3, q4, q5⟩ := zz_rule hB hS hZ hn h1
      have c1 := xt125 (p := pl) (J := nt_I M) (L := nt_J M) (zz_P hB) (zz_Qn hB) (zz_Qm hB) (zz_Nm hB) q3 hn q1 h1 e1
      rw [(lq_out c1).2]
      exact x125_frJ (ne g 25 (by omega) (by omega) (by omega)) (ne g 48 (by omega) (by omega) (by omega)) (ne g 49 (by omega) (by omega) (by omega)) (ne g 50 (by omega) (by omega) (by omega)) (ne g 51 (by omega) (by omega) (by omega)) (ne g 52 (by omega) (by omega) (by omega)) (ne g 53 (by omega) (by omega) (by omega)) (ne g 54 (by omega) (by omega) (by omega)) (ne g 55 (by omega) (by omega) (by omega)) (ne g 56 (by omega) (by omega) (by omega)) (ne g 57 (by omega) (by omega) (by omega)) (ne g 58 (by omega) (by omega) (by omega)) (ne g 59 (by omega) (by omega) (by omega)) (ne g 60 (by omega) (by omega) (by omega)) (ne g 61 (by omega) (by omega) (by omega)) (ne g 62 (by omega) (by omega) (by omega)) (ne g 63 (by omega) (by omega) (by omega)) (ne g 64 (by omega) (by omega) (by omega))
theorem zz_a_ahead {X : nt_X} {pl : Nat → Nat} {v v1 mk xi : Nat → Int} {M M1 M2 : nt_M} {y1 y2 a b c : Int32} (hB : ly_B pl v M) (hS : ly_S pl mk xi (v 2) M) (hB1 : ly_B pl v1 M1) (hE : lq_E pl M) (e1 : nt_ev X 99 123 [.ref (pl 16), .int a, .int b, .int c] M (some (.int y1), M1)) (e2 : nt_ev X 99 226 [.ref (pl 0), .int a, .int b, .int c] M1 (some (.int y2), M2)) (hZ : zz_E pl M) : y1 = y2 := by
  have ne := zz_ne hB
  have r1 := zz_aheadF hB hS e1 hZ
  have hZ0 := hZ
  obtain ⟨⟨hR, hW, hd, hz⟩, hI⟩ := hZ
  have h0 : 0 ≤ (nt_I M (pl 0) 2).toInt := ((hB.2.1.2 0 _ (show ly_E.2.1[0]? = some (11, 0, 0, 9) from rfl)).2.2.2.2 2).1
  obtain ⟨y2e, _⟩ := lq_out (xt226 (p := pl) (J := nt_I M1) (L := nt_J M1) (zz_P hB1) (zz_W hB1) e2)
  have e4 := r1 4 (by omega) (by decide)
  have e0 := r1 0 (by omega) (by decide)
  by_cases hn : a < 0
  · obtain ⟨y1e, _⟩ := lq_out (xt123N (p := pl) (J := nt_I M) (zz_P hB) (zz_Qn hB) (zz_Qm hB) (zz_Nm hB) hn e1)
    rw [y1e, y2e]
    exact zq_123N (Jr := nt_I M1) hn (zz_Xm hB) (by rw [e4]; exact hR) (by rw [e4]; exact hW) (by rw [e4]; exact hd) (by rw [e0]; exact zz_16 hE) (by rw [e0]; exact h0)
  · by_cases h1 : nt_I M (pl 16) 4 ≤ a
    · have hx : x111 pl a (nt_I M) = Int32.ofInt 0 := by
        unfold x111
        rw [if_pos h1]
        split <;> rfl
      obtain ⟨y1e, _⟩ := lq_out (xt123H (p := pl) (J := nt_I M) (zz_P hB) (zz_Qn hB) hx e1)
      have hm : x187 pl a (nt_I M1) = 0 := by
        have may := zmay (q := fun i => pl (31 + i)) (p := pl) (Jc := nt_I M) (Jr := nt_I M1) (v1 := a) (by rw [e4]; exact hR) (by rw [e4]; exact hW.w) (by rw [e0]; exact zz_16 hE) (by rw [e0]; exact h0)
        exact Classical.byContradiction fun c => (may.mpr c).2 hx
      have u : x226 pl a b c (nt_I M1) (nt_J M1) = (Int32.ofInt (-1), nt_I M1, nt_J M1) := by
        unfold x226
        rw [if_pos hm]
      have y1m : y1 = Int32.ofInt (-1) := by
        rw [y1e]
        unfold x123H
        split <;> rfl
      rw [u] at y2e
      rw [y1m, y2e]
    · obtain ⟨rb, q1, q2, q3, q4, q5⟩ := zz_rule hB hS hZ0 hn h1
      obtain ⟨y1e, _⟩ := lq_out (xt123 (p := pl) (J := nt_I M) (L := nt_J M) (zz_P hB) (zz_Qn hB) (zz_Qm hB) (zz_Nm hB) q3 hn q1 h1 e1)
      rw [y1e, y2e]
      exact zq_123 (Jr := nt_I M1) (fun i hi => q3.2.1 (48 + i) (by omega)) q4 (zRQ_ag q5 rfl (r1 1 (by omega) (by decide)) (r1 2 (by omega) (by decide)) (r1 3 (by omega) (by decide))) (zz_Xm hB) (by rw [e4]; exact hR) (by rw [e4]; exact hW) (by rw [e4]; exact hd) (by rw [e0]; exact zz_16 hE) (by rw [e0]; exact h0)
end
section
/-! years, both sides -/
theorem zR_x6 {q : Nat → Nat} {J : Nat → Nat → Int32} {e : Nat → Int32} {v : Int32} (hq : zq q) (h : zR q J e) : zR q (nt_u J (q 0) 6 v) e := by
  refine ⟨fun j hj => ?_, ?_⟩
  · rw [← h.1 j hj]
    by_cases er : (zc j).1 = 0
    · rw [er]
      have nk : (zc j).2 ≠ 6 := by
        intro ek
        have z := zi_c j (zv_lt hj)
        rw [show zc j = (0, 6) from Prod.ext er ek, show zi (0, 6) = 9 from rfl] at z
        subst z
        unfold zv at hj
        omega
      rw [me_uk nk]
    · rw [me_uo (hq _ _ (zc_17 j (zv_lt hj)) (by omega) er)]
  · rw [me_uk (by decide), h.2]
end
section
/-- draws -/
def zdx (x : Int32) : Int64 := (x.toInt64 * 1103515245 + 12345) - (x.toInt64 * 1103515245 + 12345) / 2147483648 * 2147483648
theorem zdx_t {x : Int32} : (zdx x).toInt = (x.toInt * 1103515245 + 12345).tmod 2147483648 := by
  have e : x.toInt64.toInt = x.toInt := Int32.toInt_toInt64 x
  have l1 := x.le_toInt
  have l2 := x.toInt_lt
  have a : (x.toInt64 * 1103515245 + 12345).toInt = x.toInt * 1103515245 + 12345 := by
    rw [Int64.toInt_add, Int64.toInt_mul, e, show (1103515245 : Int64).toInt = 1103515245 from by decide, show (12345 : Int64).toInt = 12345 from by decide, Int.bmod_eq_of_le (n := x.toInt * 1103515245) (by omega) (by omega), Int.bmod_eq_of_le (by omega) (by omega)]
  have t := Int.tmod_def (x.toInt * 1103515245 + 12345) 2147483648
  have b1 := Int.tmod_lt_of_pos (x.toInt * 1103515245 + 12345) (b := 2147483648) (by decide)
  have b2 := Int.lt_tmod_of_pos (x.toInt * 1103515245 + 12345) (b := 2147483648) (by decide)
  have d : ((x.toInt64 * 1103515245 + 12345) / 2147483648).toInt = (x.toInt * 1103515245 + 12345).tdiv 2147483648 := by
    rw [Int64.toInt_div_of_ne_right _ _ (by decide), a, show (2147483648 : Int64).toInt = 2147483648 from by decide]
  unfold zdx
  rw [Int64.toInt_sub, Int64.toInt_mul, a, d, show (2147483648 : Int64).toInt = 2147483648 from by decide, Int.bmod_eq_of_le (n := (x.toInt * 1103515245 + 12345).tdiv 2147483648 * 2147483648) (by omega) (by omega), Int.bmod_eq_of_le (by omega) (by omega), t]
  omega
theorem zdx_b {x : Int32} : -2147483648 < (zdx x).toInt ∧ (zdx x).toInt < 2147483648 := by
  rw [zdx_t]
  exact ⟨Int.lt_tmod_of_pos _ (by decide), Int.tmod_lt_of_pos _ (by decide)⟩
theorem zdx_i {x : Int32} : (zdx x).toInt32.toInt = (zdx x).toInt := by
  have b := zdx_b (x := x)
  rw [Int64.toInt_toInt32, Int.bmod_eq_of_le (by omega) (by omega)]
theorem zdx_n {x : Int32} : (zdx x).toInt32.toInt64 = zdx x := Int64.toInt_inj.mp (by rw [Int32.toInt_toInt64, zdx_i])
theorem z_lge {x y : Int64} : 0 ≤ lg_cmp x y ↔ y.toInt ≤ x.toInt := by
  have a := @z_lgl x y
  have b : (0 ≤ lg_cmp x y) ↔ ¬ (lg_cmp x y < 0) := by
    rw [Int32.le_iff_toInt_le, Int32.lt_iff_toInt_lt]
    omega
  rw [b, a]
  omega
end
section
theorem zdx_q {r : Int} (h1 : -2147483648 < r) (h2 : r < 2147483648) : -40000 < r.tdiv 65536 ∧ r.tdiv 65536 < 40000 := by
  have t1 := Int.tmod_def r 65536
  have t2 := Int.tmod_lt_of_pos r (b := 65536) (by decide)
  have t3 := Int.lt_tmod_of_pos r (b := 65536) (by decide)
  generalize r.tdiv 65536 = u at t1 ⊢
  generalize r.tmod 65536 = m at t1 t2 t3
  omega
theorem zdx_r {u : Int} (h1 : -40000 < u) (h2 : u < 40000) : -4000 < u.tdiv 100 ∧ u.tdiv 100 < 4000 := by
  have t1 := Int.tmod_def u 100
  have t2 := Int.tmod_lt_of_pos u (b := 100) (by decide)
  have t3 := Int.lt_tmod_of_pos u (b := 100) (by decide)
  generalize u.tdiv 100 = w at t1 ⊢
  generalize u.tmod 100 = m at t1 t2 t3
  omega
end
section
theorem zdx_32 {y : Int32} : (y / Int32.ofInt 65536 - y / Int32.ofInt 65536 / Int32.ofInt 100 * Int32.ofInt 100).toInt = y.toInt.tdiv 65536 - (y.toInt.tdiv 65536).tdiv 100 * 100 := by
  have l1 := y.le_toInt
  have l2 := y.toInt_lt
  by_cases e : y.toInt = -2147483648
  · rw [show y = Int32.ofInt (-2147483648) from Int32.toInt_inj.mp (e.trans (by decide))]
    decide
  · have q := zdx_q (r := y.toInt) (by omega) (by omega)
    have w := zdx_r q.1 q.2
    have a1 : (y / Int32.ofInt 65536).toInt = y.toInt.tdiv 65536 := Int32.toInt_div_of_ne_right y (Int32.ofInt 65536) (by decide)
    have a2 : (y / Int32.ofInt 65536 / Int32.ofInt 100).toInt = (y.toInt.tdiv 65536).tdiv 100 := by
      rw [← a1]
      exact Int32.toInt_div_of_ne_right (y / Int32.ofInt 65536) (Int32.ofInt 100) (by decide)
    rw [Int32.toInt_sub, Int32.toInt_mul, a1, a2, show (Int32.ofInt 100).toInt = 100 from by decide]
    generalize (y.toInt.tdiv 65536).tdiv 100 = c at w ⊢
    generalize y.toInt.tdiv 65536 = d at q ⊢
    rw [Int.bmod_eq_of_le (n := c * 100) (by omega) (by omega), Int.bmod_eq_of_le (by omega) (by omega)]
end
section
theorem zdx_64 {y : Int64} (h1 : -2147483648 < y.toInt) (h2 : y.toInt < 2147483648) : (y / 65536 - y / 65536 / 100 * 100).toInt = y.toInt.tdiv 65536 - (y.toInt.tdiv 65536).tdiv 100 * 100 := by
  have q := zdx_q (r := y.toInt) h1 h2
  have w := zdx_r q.1 q.2
  have a1 : (y / 65536).toInt = y.toInt.tdiv 65536 := Int64.toInt_div_of_ne_right y 65536 (by decide)
  have a2 : (y / 65536 / 100).toInt = (y.toInt.tdiv 65536).tdiv 100 := by
    rw [← a1]
    exact Int64.toInt_div_of_ne_right (y / 65536) 100 (by decide)
  rw [Int64.toInt_sub, Int64.toInt_mul, a1, a2, show (100 : Int64).toInt = 100 from by decide]
  generalize (y.toInt.tdiv 65536).tdiv 100 = c at w ⊢
  generalize y.toInt.tdiv 65536 = d at q ⊢
  rw [Int.bmod_eq_of_le (n := c * 100) (by omega) (by omega), Int.bmod_eq_of_le (by omega) (by omega)]
end
