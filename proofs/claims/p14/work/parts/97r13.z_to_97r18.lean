section
/-! answers alike; what holds at the start -/
theorem zz_keep2 {pl : Nat → Nat} {mk xi : Nat → Int} {rc : Int} {M M1 M2 : nt_M} (hS : ly_S pl mk xi rc M) (f1 : ly_fr 66 pl M M1) (f2 : ly_fr 66 pl M1 M2) (t1 : zz_T zz_ok pl M M1) (t2 : zz_T zz_ok pl M1 M2) (h : zz_E pl M) : zz_E pl M2 := zz_keep (ly_S_fr f1 hS) f2 t2 (zz_keep hS f1 t1 h)
theorem zz_16 {pl : Nat → Nat} {M : nt_M} (h : lq_E pl M) : nt_I M (pl 16) 4 = nt_I M (pl 0) 2 := by
  obtain ⟨t, n, _, _, _, _, _, _, a, b⟩ := h
  rw [a, b]
theorem zz_17 {pl : Nat → Nat} {M : nt_M} (h : lq_E pl M) : nt_I M (pl 17) 1 = nt_I M (pl 0) 1 := by
  obtain ⟨t, n, _, _, a, b, _⟩ := h
  rw [a, b]
theorem zz_o1 {X : nt_X} {K : sx_K} {ok : Nat → Bool} {pl : Nat → Nat} {v : Nat → Int} {M : nt_M} {o : Option Value × nt_M} {d g dl rv : Nat} {lo hi : Int} {mo : List (Nat × Int × Int)} {rm : List (Nat × Nat)} (a : Int32) (h1 : lo ≤ a.toInt) (h2 : a.toInt ≤ hi) (hK : sx_KOK X (sx_tbs, sx_gps) K) (hKe : K = (g, dl, ly_D ++ [], (mo, rm), [(2, rv, (0, [])), (0, 0, (0, [(11, 1)]))], (ly_C ++ [], ly_R ++ [], (ly_b ++ [(11, lo, hi)], []), 12), [(some (0, 0, (0, [(12, 1)])), (ly_C, ly_R, ([(12, -2147483648, 2147483647)], []), 12 + 1))])) (hmo : mo.all (fun q => !ok q.1) = true) (hd : dl ≤ d) (hB : ly_B pl v M) (k : nt_ev X d g [.ref (pl rv), .int a] M o) : zz_T ok pl M o.2 := by
  obtain ⟨r, hr, h11⟩ : ∃ r : Nat → Int, (∀ s, s < 11 → r s = v s) ∧ r 11 = a.toInt := ⟨fun s => if s = 11 then a.toInt else v s, fun s hs => by dsimp only; rw [if_neg (by omega)], rfl⟩
  exact zz_gen (vs := [.ref (pl rv), .int a]) (ec := []) (r := r) hK hKe hmo hd hB hr ⟨rfl, ⟨a, rfl, (ly_e1 h11).symm⟩, trivial⟩ (fun q hq => by cases hq) (ly_oba (ly_obr hr (ly_ob hB)) (ly_ob1 (by omega))) ly_oc0 k
theorem zz_mk {pl : Nat → Nat} {v : Nat → Int} {M : nt_M} {k : Nat} (hB : ly_B pl v M) (hk : k < 4) : (nt_I M (pl 15) k).toInt = v (3 + k) := by
  rcases (by omega : k = 0 ∨ k = 1 ∨ k = 2 ∨ k = 3) with rfl | rfl | rfl | rfl
  · exact ly_cell (g := 15) (j := 0) (u := 3) hB (by decide) (List.mem_of_getElem? (i := 3) rfl)
  · exact ly_cell (g := 15) (j := 1) (u := 4) hB (by decide) (List.mem_of_getElem? (i := 4) rfl)
  · exact ly_cell (g := 15) (j := 2) (u := 5) hB (by decide) (List.mem_of_getElem? (i := 5) rfl)
  · exact ly_cell (g := 15) (j := 3) (u := 6) hB (by decide) (List.mem_of_getElem? (i := 6) rfl)
theorem zz_15 {pl : Nat → Nat} {v : Nat → Int} {M : nt_M} {k : Nat} (hB : ly_B pl v M) (hk : k < 4) (h : v (3 + k) = 1) : ¬ nt_I M (pl 15) k = 0 := fun e => by
  have q := zz_mk hB hk
  rw [e, h] at q
  exact absurd q (by decide)
theorem zz_15N {pl : Nat → Nat} {v : Nat → Int} {M : nt_M} {k : Nat} (hB : ly_B pl v M) (hk : k < 4) (h : v (3 + k) = 0) : nt_I M (pl 15) k = 0 := Int32.toInt_inj.mp (by rw [zz_mk hB hk, h]; decide)
theorem zz_a_plank {X : nt_X} {pl : Nat → Nat} {v v1 : Nat → Int} {M M1 M2 : nt_M} {y1 y2 a b : Int32} (hB : ly_B pl v M) (hB1 : ly_B pl v1 M1) (e1 : nt_ev X 99 107 [.ref (pl 16), .int a, .int b] M (some (.int y1), M1)) (e2 : nt_ev X 99 176 [.ref (pl 0), .int a, .int b] M1 (some (.int y2), M2)) (hZ : zz_E pl M) : y1 = y2 := by
  obtain ⟨y1e, M1e⟩ := lq_out (xt107 (p := pl) (J := nt_I M) (zz_P hB) (zz_Qn hB) e1)
  have i1 : nt_I M1 = nt_I M := by rw [M1e]; rfl
  obtain ⟨y2e, _⟩ := lq_out (xt176 (p := pl) (J := nt_I M1) (zz_P hB1) e2)
  rw [y1e, y2e, i1]
  exact zq_107 hZ.1.1 hZ.1.2.1
theorem zz_a_voyage {X : nt_X} {pl : Nat → Nat} {v v1 : Nat → Int} {M M1 M2 : nt_M} {y1 y2 a b : Int32} (hB : ly_B pl v M) (hB1 : ly_B pl v1 M1) (e1 : nt_ev X 99 108 [.ref (pl 16), .int a, .int b] M (some (.int y1), M1)) (e2 : nt_ev X 99 178 [.ref (pl 0), .int a, .int b] M1 (some (.int y2), M2)) (hZ : zz_E pl M) : y1 = y2 := by
  obtain ⟨y1e, M1e⟩ := lq_out (xt108 (p := pl) (J := nt_I M) (zz_P hB) (zz_Qn hB) e1)
  have i1 : nt_I M1 = nt_I M := by rw [M1e]; rfl
  obtain ⟨y2e, _⟩ := lq_out (xt178 (p := pl) (J := nt_I M1) (zz_P hB1) e2)
  rw [y1e, y2e, i1]
  exact zq_108 hZ.1.1 hZ.1.2.1
theorem zz_a_count {X : nt_X} {pl : Nat → Nat} {v v1 : Nat → Int} {M M1 M2 : nt_M} {y1 y2 a : Int32} (hB : ly_B pl v M) (hB1 : ly_B pl v1 M1) (hx : v 0 = v 1) (hE : lq_E pl M) (e1 : nt_ev X 99 126 [.ref (pl 16), .int a] M (some (.int y1), M1)) (e2 : nt_ev X 99 233 [.ref (pl 0), .int a] M1 (some (.int y2), M2)) (hZ : zz_E pl M) : y1 = y2 := by
  obtain ⟨y1e, M1e⟩ := lq_out (xt126 (p := pl) (J := nt_I M) (zz_P hB) (zz_Qn hB) e1)
  have i1 : nt_I M1 = nt_I M := by rw [M1e]; rfl
  obtain ⟨y2e, _⟩ := lq_out (xt233 (p := pl) (J := nt_I M1) (zz_P hB1) e2)
  rw [y1e, y2e, i1]
  exact zq_126 hZ.1.1 hZ.1.2.1 hZ.1.2.2.2 (zz_16 hE) (zz_17 hE) (zz_x hB hx)
theorem zz_a_same {X : nt_X} {pl : Nat → Nat} {v v1 : Nat → Int} {M M1 M2 : nt_M} {y1 y2 a b : Int32} (hB : ly_B pl v M) (hB1 : ly_B pl v1 M1) (e1 : nt_ev X 99 119 [.ref (pl 16), .int a, .int b] M (some (.int y1), M1)) (e2 : nt_ev X 99 217 [.ref (pl 0), .int a, .int b] M1 (some (.int y2), M2)) (hZ : zz_E pl M) : y1 = y2 := by
  obtain ⟨y1e, M1e⟩ := lq_out (xt119 (p := pl) (J := nt_I M) (zz_P hB) (zz_Qn hB) e1)
  have i1 : nt_I M1 = nt_I M := by rw [M1e]; rfl
  obtain ⟨y2e, _⟩ := lq_out (xt217 (p := pl) (J := nt_I M1) (zz_P hB1) e2)
  rw [y1e, y2e, i1]
  exact zq_119 hZ.1.1 hZ.1.2.1
theorem zz_a_unlike {X : nt_X} {pl : Nat → Nat} {v v1 : Nat → Int} {M M1 M2 : nt_M} {y1 y2 : Int32} (hB : ly_B pl v M) (hB1 : ly_B pl v1 M1) (e1 : nt_ev X 99 120 [.ref (pl 16)] M (some (.int y1), M1)) (e2 : nt_ev X 99 221 [.ref (pl 0)] M1 (some (.int y2), M2)) (hZ : zz_E pl M) : y1 = y2 := by
  obtain ⟨y1e, M1e⟩ := lq_out (xt120 (p := pl) (J := nt_I M) (zz_P hB) (zz_Qn hB) e1)
  have i1 : nt_I M1 = nt_I M := by rw [M1e]; rfl
  obtain ⟨y2e, _⟩ := lq_out (xt221 (p := pl) (J := nt_I M1) (zz_P hB1) e2)
  rw [y1e, y2e, i1]
  exact zq_120 hZ.1.1 hZ.1.2.1
/-- the start -/
theorem zz_io_n : (List.range 6).all (fun k => (match ly_rl ly_io 7 k with | some _ => false | none => true)) = true := by decide +kernel
theorem zz_E0 {M : nt_M} (hM : M = ly_fo 0 nt_M0 ly_io) (hB : ly_B ly_p0 (fun _ => 0) M) (hS : ly_S ly_p0 (fun _ => 0) (fun _ => 0) 0 M) : zz_E ly_p0 M := by
  have h0 : nt_n nt_M0 = 0 := rfl
  have z : ∀ i j, i < 66 → nt_I M i j = 0 := fun i j hi => by
    have := ly_fo_I (n := 0) (M := nt_M0) (i := i) h0 ly_io (by rw [ly_io_c]; exact hi) j
    rw [Nat.zero_add, ← hM] at this
    exact this
  have lt : ∀ g, g < 66 → ly_p0 g < 66 := fun g hg => Nat.blt_eq.mp (List.all_eq_true.mp ly_p0_lt g (List.mem_range.mpr hg))
  have z4 : ∀ j, nt_I M (ly_p0 4) j = 0 := fun j => z _ j (lt 4 (by omega))
  have n0 : ∀ i, zn (nt_I M (ly_p0 4)) i = 0 := fun i => by
    unfold zn
    rw [z4]
    rfl
  have t0 : (0 : Int32).toInt = 0 := by decide
  refine ⟨⟨⟨fun j hj => ?_, ?_⟩, ⟨zz_W hB, ⟨?_, fun s hs => ?_, fun s hs => ?_, fun s hs => ?_, fun s hs => ?_⟩, ⟨fun s hs => ?_, fun s hs => ?_⟩, ⟨fun s hs => ?_, fun s hs => ?_, fun s hs => ?_, fun s hs => ?_⟩, ⟨?_, ?_, fun s hs => ?_⟩⟩, ?_, ?_⟩, fun k hk a ha => ?_, fun u b hu hb => ?_⟩
  · have := zc_17 j (zv_lt hj)
    dsimp only
    rw [z4, z _ _ (lt _ (by omega))]
  · dsimp only
    rw [z4, z _ _ (lt _ (by omega)), if_pos rfl]
  · rw [z4, t0]
    omega
  · rw [n0] at hs
    omega
  · rw [n0] at hs
    omega
  · rw [n0] at hs
    omega
  · rw [n0] at hs
    omega
  · rw [n0] at hs
    omega
  · rw [n0] at hs
    omega
  · rw [n0] at hs
    omega
  · rw [n0] at hs
    omega
  · rw [n0] at hs
    omega
  · rw [n0] at hs
    omega
  · rw [z4, z4, t0]
    omega
  · rw [z4, t0]
    omega
  · rw [n0] at hs
    omega
  · rw [z4, t0]
    omega
  · intro _
    rw [z4, z4]
  · exfalso
    obtain ⟨_, _, T, t1, _⟩ := hS
    rcases t1 k hk with ⟨c, _⟩ | ⟨_, _, c, _⟩
    · rw [ha] at c
      cases c
    · exact absurd (show (0 : Int) = 1 from c) (by decide)
  · exfalso
    have r := ly_fo_R (n := 0) (M := nt_M0) (i := 7) h0 ly_io (by rw [ly_io_c]; decide) u
    rw [Nat.zero_add, ← hM] at r
    have l := List.all_eq_true.mp zz_io_n u (List.mem_range.mpr hu)
    have hb : nt_R M 7 u = some b := hb
    rw [hb] at r
    cases hr : ly_rl ly_io 7 u with
    | none => rw [hr] at r; cases r
    | some b => rw [hr] at l; cases l
end
section
/-! sets, told as bits -/
theorem z_ite {P A B : Prop} [Decidable P] (h1 : A) (h2 : B) : if P then A else B := by
  by_cases h : P
  · rw [if_pos h]
    exact h1
  · rw [if_neg h]
    exact h2
theorem zb_t : ∀ n, n < 256 → x236 (nI n) = x214 (nI n) := by decide +kernel
theorem zb_or : ∀ n, n < 64 → ∀ i, i < 6 → nI n ||| (Int32.ofInt 1 <<< (nI i &&& 31)) = nI (n ||| (1 <<< i)) ∧ n ||| (1 <<< i) < 64 := by decide +kernel
theorem zb_228 {p : Nat → Nat} {J : Nat → Nat → Int32} (hW : xr_W (J (p 4))) : ∃ n, n < 64 ∧ x228 p J = nI n := by
  unfold x228
  refine x228_4_rule (I := fun _ v1 v2 => (∃ n, n < 64 ∧ v1 = nI n) ∧ 0 ≤ v2.toInt) (Q := fun r => ∃ n, n < 64 ∧ r = nI n) ?_ ?_ _ _ _ ⟨⟨0, by omega, rfl⟩, by decide⟩
  · intro v1 v2 h
    exact h.1
  · intro c v1 v2 h
    obtain ⟨⟨n, hn, e⟩, h0⟩ := h
    split
    · exact ⟨n, hn, e⟩
    · rename_i h1
      have l := xi_l5 hW h1 h0
      have tn := z_tn h0
      have ei : v2 = nI v2.toNatClampNeg := Int32.toInt_inj.mp (by rw [nI_toInt (by omega)]; exact tn)
      have lt : v2.toNatClampNeg < 6 := by omega
      have t := zb_or n hn _ lt
      rw [← ei] at t
      split
      · exact ⟨⟨n ||| (1 <<< v2.toNatClampNeg), t.2, by rw [e]; exact t.1⟩, xi_nn h1 h0⟩
      · exact ⟨⟨n, hn, by rw [e, z_or0]⟩, xi_nn h1 h0⟩
theorem zb_eq {p : Nat → Nat} {J : Nat → Nat → Int32} (hW : xr_W (J (p 4))) : x236 (x228 p J) = x214 (x228 p J) := by
  obtain ⟨n, hn, e⟩ := zb_228 hW
  rw [e]
  exact zb_t n (by omega)
end
section
/-! plans, both sides -/
def xs_V (M : nt_M) (p : Nat → Nat) : Prop := nt_R M (p 28) 0 = some (p 31) ∧ nt_R M (p 28) 1 = some (p 32) ∧ nt_l M (p 29) = 4 ∧ nt_l M (p 30) = 4
/-! $Plans.has -/
def x14 (v0 : Int32) (v1 : Int32) : Int32 := if ((v0 >>> (v1 &&& 31)) &&& (Int32.ofInt 1)) = 0 then (Int32.ofInt 0)
  else (Int32.ofInt 1)
theorem xt14 {X : nt_X} {d : Nat} {M : nt_M} {o : Option Value × nt_M} {v0 : Int32} {v1 : Int32} {J : Nat → Nat → Int32}  (k : nt_ev X d 14 [.int v0, .int v1] (me_w M J) o) : o = (some (.int (x14 v0 v1)), me_w M J) := by
  have k : nt_rn X d 14 (0, [(0, .int v0), (1, .int v1)], [], me_w M J) o := k
  have k := ly_revb 6 (c' := (if ((v0 >>> (v1 &&& 31)) &&& (Int32.ofInt 1)) = 0 then 12 else 8, [(0, .int v0), (1, .int v1)], [], me_w M J)) rfl k
  by_cases h5 : ((v0 >>> (v1 &&& 31)) &&& (Int32.ofInt 1)) = 0
  · rw [if_pos h5] at k
    have k := ly_revb 1 (c' := (13, [(0, .int v0), (1, .int v1)], [.int (Int32.ofInt 0)], me_w M J)) rfl k
    have k := lz_ri rfl (by decide) k
    rw [k, x14, if_pos h5]
  · rw [if_neg h5] at k
    have k := ly_revb 2 (c' := (13, [(0, .int v0), (1, .int v1)], [.int (Int32.ofInt 1)], me_w M J)) rfl k
    have k := lz_ri rfl (by decide) k
    rw [k, x14, if_neg h5]
/-! $Plans.isBetter -/
def x21 (v0 : Int32) (v1 : Int32) (v2 : Int32) (v3 : Int32) : Int32 := if v2 < v0 then (Int32.ofInt 1)
  else if v0 = v2 then if (x236 v3) ≤ (x236 v1) then (Int32.ofInt 0)
      else (Int32.ofInt 1)
    else (Int32.ofInt 0)
theorem xt21 {X : nt_X} {d : Nat} {M : nt_M} {o : Option Value × nt_M} {v0 : Int32} {v1 : Int32} {v2 : Int32} {v3 : Int32} {J : Nat → Nat → Int32}  (k : nt_ev X d 21 [.int v0, .int v1, .int v2, .int v3] (me_w M J) o) : o = (some (.int (x21 v0 v1 v2 v3)), me_w M J) := by
  have k : nt_rn X d 21 (0, [(0, .int v0), (1, .int v1), (2, .int v2), (3, .int v3)], [], me_w M J) o := k
  have k := ly_revb 3 (c' := (if v2 < v0 then 21 else 5, [(0, .int v0), (1, .int v1), (2, .int v2), (3, .int v3)], [], me_w M J)) rfl k
  by_cases h2 : v2 < v0
  · rw [if_pos h2] at k
    have k := ly_revb 2 (c' := (26, [(0, .int v0), (1, .int v1), (2, .int v2), (3, .int v3)], [.int (Int32.ofInt 1)], me_w M J)) rfl k
    have k := lz_ri rfl (by decide) k
    rw [k, x21, if_pos h2]
  · rw [if_neg h2] at k
    have k := ly_revb 3 (c' := (if v0 = v2 then 10 else 25, [(0, .int v0), (1, .int v1), (2, .int v2), (3, .int v3)], [], me_w M J)) rfl k
    by_cases h7 : v0 = v2
    · rw [if_pos h7] at k
      have k := ly_revb 1 (c' := (11, [(0, .int v0), (1, .int v1), (2, .int v2), (3, .int v3)], [.int v1], me_w M J)) rfl k
      obtain ⟨d1, o1, ed, kc, k⟩ := lz_c (g := 236) (q := 0) (vs := [.int v1]) (rest := []) rfl rfl (by decide) (Or.inl ⟨_, rfl, rfl⟩) rfl k
      have e1 := xt236  kc
      subst e1
      have k : nt_rn X _ 21 (14, [(0, .int v0), (1, .int v1), (2, .int v2), (3, .int v3)], [.int (x236 v1)], me_w M J) _ := k
      have k := ly_revb 1 (c' := (15, [(0, .int v0), (1, .int v1), (2, .int v2), (3, .int v3)], [.int v3, .int (x236 v1)], me_w M J)) rfl k
      obtain ⟨d1, o1, ed, kc, k⟩ := lz_c (g := 236) (q := 0) (vs := [.int v3]) (rest := [.int (x236 v1)]) rfl rfl (by decide) (Or.inl ⟨_, rfl, rfl⟩) rfl k
      have e1 := xt236  kc
      subst e1
      have k : nt_rn X _ 21 (18, [(0, .int v0), (1, .int v1), (2, .int v2), (3, .int v3)], [.int (x236 v3), .int (x236 v1)], me_w M J) _ := k
      have k := ly_revb 1 (c' := (if (x236 v3) ≤ (x236 v1) then 25 else 21, [(0, .int v0), (1, .int v1), (2, .int v2), (3, .int v3)], [], me_w M J)) rfl k
      by_cases h18 : (x236 v3) ≤ (x236 v1)
      · rw [if_pos h18] at k
        have k := ly_revb 1 (c' := (26, [(0, .int v0), (1, .int v1), (2, .int v2), (3, .int v3)], [.int (Int32.ofInt 0)], me_w M J)) rfl k
        have k := lz_ri rfl (by decide) k
        rw [k, x21, if_neg h2, if_pos h7, if_pos h18]
      · rw [if_neg h18] at k
        have k := ly_revb 2 (c' := (26, [(0, .int v0), (1, .int v1), (2, .int v2), (3, .int v3)], [.int (Int32.ofInt 1)], me_w M J)) rfl k
        have k := lz_ri rfl (by decide) k
        rw [k, x21, if_neg h2, if_pos h7, if_neg h18]
    · rw [if_neg h7] at k
      have k := ly_revb 1 (c' := (26, [(0, .int v0), (1, .int v1), (2, .int v2), (3, .int v3)], [.int (Int32.ofInt 0)], me_w M J)) rfl k
      have k := lz_ri rfl (by decide) k
      rw [k, x21, if_neg h2, if_neg h7]
/-! java/util/Arrays.fill -/
def x238K_5 (p : Nat → Nat) (v1 : Int32) (v3 : Int32) : Nat → Int32 → (Nat → Nat → Int32) → (Nat → Nat → Int32)
  | 0, v2, J => J
  | c + 1, v2, J => if v3 ≤ v2 then J
    else (x238K_5 p v1 v3 c (v2 + (Int32.ofInt 1)) (nt_u J (p 29) v2.toNatClampNeg v1))
theorem xt238K_5 {X : nt_X} {d : Nat} {M : nt_M} {o : Option Value × nt_M} {p : Nat → Nat} {v1 : Int32} {v3 : Int32} (hp : xs_P M p) (hv : xs_V M p) : ∀ (c : Nat) (v2 : Int32) (J : Nat → Nat → Int32), v3.toInt - v2.toInt ≤ c → nt_rn X d 238 (5, [(0, .ref (p 29)), (1, .int v1), (2, .int v2), (3, .int v3)], [], me_w M J) o → o = (none, me_w M (x238K_5 p v1 v3 c v2 J)) := by
  intro c
  induction c with
  | zero =>
    intro v2 J hc k
    have k := ly_revb 3 (c' := (if v3 ≤ v2 then 20 else 10, [(0, .ref (p 29)), (1, .int v1), (2, .int v2), (3, .int v3)], [], me_w M J)) rfl k
    have h7 : v3 ≤ v2 := lx_end hc
    rw [if_pos h7] at k
    have k := lz_rv rfl rfl k
    rw [k, x238K_5]
  | succ c ih =>
    intro v2 J hc k
    have k := ly_revb 3 (c' := (if v3 ≤ v2 then 20 else 10, [(0, .ref (p 29)), (1, .int v1), (2, .int v2), (3, .int v3)], [], me_w M J)) rfl k
    by_cases h7 : v3 ≤ v2
    · rw [if_pos h7] at k
      have k := lz_rv rfl rfl k
      rw [k, x238K_5, if_pos h7]
    · rw [if_neg h7] at k
      have k := ly_revb 3 (c' := (13, [(0, .ref (p 29)), (1, .int v1), (2, .int v2), (3, .int v3)], [.int v1, .int v2, .ref (p 29)], me_w M J)) rfl k
      have k := mx_iast (q := v2.toNatClampNeg) rfl rfl k
      have k : nt_rn X _ 238 (14, [(0, .ref (p 29)), (1, .int v1), (2, .int v2), (3, .int v3)], [], me_w M (nt_u J (p 29) v2.toNatClampNeg v1)) _ := k
      have k := ly_revb 2 (c' := (5, [(2, .int (v2 + (Int32.ofInt 1))), (0, .ref (p 29)), (1, .int v1), (3, .int v3)], [], me_w M (nt_u J (p 29) v2.toNatClampNeg v1))) rfl k
      have k := nt_rn_w (a := [(2, .int (v2 + (Int32.ofInt 1))), (0, .ref (p 29)), (1, .int v1), (3, .int v3)]) (b := [(0, .ref (p 29)), (1, .int v1), (2, .int (v2 + (Int32.ofInt 1))), (3, .int v3)]) ⟨rfl, rfl, rfl, rfl, trivial⟩ rfl k
      have k := ih (v2 + (Int32.ofInt 1)) (nt_u J (p 29) v2.toNatClampNeg v1) (lx_dec h7 hc) k
      rw [k, x238K_5, if_neg h7]
theorem x238K_5_rule {p : Nat → Nat} {v1 : Int32} {v3 : Int32} {I : Nat → Int32 → (Nat → Nat → Int32) → Prop} {Q : (Nat → Nat → Int32) → Prop} (h0 : ∀ (v2 : Int32) (J : Nat → Nat → Int32), I 0 v2 J → Q J) (h1 : ∀ (c : Nat) (v2 : Int32) (J : Nat → Nat → Int32), I (c + 1) v2 J →
    if v3 ≤ v2 then (Q J)
    else (I c (v2 + (Int32.ofInt 1)) (nt_u J (p 29) v2.toNatClampNeg v1))) : ∀ (c : Nat) (v2 : Int32) (J : Nat → Nat → Int32), I c v2 J → Q (x238K_5 p v1 v3 c v2 J) := by
  intro c
  induction c with
  | zero =>
    intro v2 J hi
    rw [x238K_5]
    exact h0 v2 J hi
  | succ c ih =>
    intro v2 J hi
    have hi := h1 c v2 J hi
    rw [x238K_5]
    by_cases h : v3 ≤ v2
    · rw [if_pos h] at hi ⊢
      exact hi
    · rw [if_neg h] at hi ⊢
      exact ih _ _ hi
def x238K (p : Nat → Nat) (v1 : Int32) (J : Nat → Nat → Int32) : (Nat → Nat → Int32) := (x238K_5 p v1 (Int32.ofNat 4) ((Int32.ofNat 4).toNatClampNeg) (Int32.ofInt 0) J)
theorem xt238K {X : nt_X} {d : Nat} {M : nt_M} {o : Option Value × nt_M} {p : Nat → Nat} {v1 : Int32} {J : Nat → Nat → Int32} (hp : xs_P M p) (hv : xs_V M p) (k : nt_ev X d 238 [.ref (p 29), .int v1] (me_w M J) o) : o = (none, me_w M (x238K p v1 J)) := by
  have k : nt_rn X d 238 (0, [(0, .ref (p 29)), (1, .int v1)], [], me_w M J) o := k
  have k := ly_revb 3 (c' := (3, [(2, .int (Int32.ofInt 0)), (0, .ref (p 29)), (1, .int v1)], [.ref (p 29)], me_w M J)) rfl k
  have k := lz_len rfl (hp.2.2.1 29 (by omega)) k
  rw [show nt_l (me_w M J) (p 29) = 4 from hv.2.2.1] at k
  have k : nt_rn X _ 238 (4, [(2, .int (Int32.ofInt 0)), (0, .ref (p 29)), (1, .int v1)], [.int (Int32.ofNat 4)], me_w M J) _ := k
  have k := ly_revb 1 (c' := (5, [(3, .int (Int32.ofNat 4)), (2, .int (Int32.ofInt 0)), (0, .ref (p 29)), (1, .int v1)], [], me_w M J)) rfl k
  have k := nt_rn_w (a := [(3, .int (Int32.ofNat 4)), (2, .int (Int32.ofInt 0)), (0, .ref (p 29)), (1, .int v1)]) (b := [(0, .ref (p 29)), (1, .int v1), (2, .int (Int32.ofInt 0)), (3, .int (Int32.ofNat 4))]) ⟨rfl, rfl, rfl, rfl, trivial⟩ rfl k
  have k := xt238K_5 hp hv  ((Int32.ofNat 4).toNatClampNeg) (Int32.ofInt 0) J (lx_beg (by decide)) k
  rw [k, x238K]
theorem x238K_5_frJ {p : Nat → Nat} {v1 : Int32} {v3 : Int32} {b : Nat} : ∀ (c : Nat) (v2 : Int32) (J : Nat → Nat → Int32), b ≠ p 29 → x238K_5 p v1 v3 c v2 J b = J b := by
  intro c
  induction c with
  | zero =>
    intro v2 J n0
    rw [x238K_5]
    all_goals first | (dsimp only; exact (show J b = J b from rfl)) | exact (show J b = J b from rfl)
  | succ c ih =>
    intro v2 J n0
    rw [x238K_5]
    by_cases h : v3 ≤ v2
    · rw [if_pos h]
      all_goals first | (dsimp only; exact (show J b = J b from rfl)) | exact (show J b = J b from rfl)
    · rw [if_neg h]
      exact (ih _ _ n0).trans (mu_o n0)
theorem x238K_frJ {p : Nat → Nat} {v1 : Int32} {J : Nat → Nat → Int32} {b : Nat} (n0 : b ≠ p 29) : x238K p v1 J b = J b := by
  unfold x238K
  exact (x238K_5_frJ _ _ _ n0).trans (rfl)
/-! java/util/Arrays.fill -/
def x238S_5 (p : Nat → Nat) (v1 : Int32) (v3 : Int32) : Nat → Int32 → (Nat → Nat → Int32) → (Nat → Nat → Int32)
  | 0, v2, J => J
  | c + 1, v2, J => if v3 ≤ v2 then J
    else (x238S_5 p v1 v3 c (v2 + (Int32.ofInt 1)) (nt_u J (p 30) v2.toNatClampNeg v1))
theorem xt238S_5 {X : nt_X} {d : Nat} {M : nt_M} {o : Option Value × nt_M} {p : Nat → Nat} {v1 : Int32} {v3 : Int32} (hp : xs_P M p) (hv : xs_V M p) : ∀ (c : Nat) (v2 : Int32) (J : Nat → Nat → Int32), v3.toInt - v2.toInt ≤ c → nt_rn X d 238 (5, [(0, .ref (p 30)), (1, .int v1), (2, .int v2), (3, .int v3)], [], me_w M J) o → o = (none, me_w M (x238S_5 p v1 v3 c v2 J)) := by
  intro c
  induction c with
  | zero =>
    intro v2 J hc k
    have k := ly_revb 3 (c' := (if v3 ≤ v2 then 20 else 10, [(0, .ref (p 30)), (1, .int v1), (2, .int v2), (3, .int v3)], [], me_w M J)) rfl k
    have h7 : v3 ≤ v2 := lx_end hc
    rw [if_pos h7] at k
    have k := lz_rv rfl rfl k
    rw [k, x238S_5]
  | succ c ih =>
    intro v2 J hc k
    have k := ly_revb 3 (c' := (if v3 ≤ v2 then 20 else 10, [(0, .ref (p 30)), (1, .int v1), (2, .int v2), (3, .int v3)], [], me_w M J)) rfl k
    by_cases h7 : v3 ≤ v2
    · rw [if_pos h7] at k
      have k := lz_rv rfl rfl k
      rw [k, x238S_5, if_pos h7]
    · rw [if_neg h7] at k
      have k := ly_revb 3 (c' := (13, [(0, .ref (p 30)), (1, .int v1), (2, .int v2), (3, .int v3)], [.int v1, .int v2, .ref (p 30)], me_w M J)) rfl k
      have k := mx_iast (q := v2.toNatClampNeg) rfl rfl k
      have k : nt_rn X _ 238 (14, [(0, .ref (p 30)), (1, .int v1), (2, .int v2), (3, .int v3)], [], me_w M (nt_u J (p 30) v2.toNatClampNeg v1)) _ := k
      have k := ly_revb 2 (c' := (5, [(2, .int (v2 + (Int32.ofInt 1))), (0, .ref (p 30)), (1, .int v1), (3, .int v3)], [], me_w M (nt_u J (p 30) v2.toNatClampNeg v1))) rfl k
      have k := nt_rn_w (a := [(2, .int (v2 + (Int32.ofInt 1))), (0, .ref (p 30)), (1, .int v1), (3, .int v3)]) (b := [(0, .ref (p 30)), (1, .int v1), (2, .int (v2 + (Int32.ofInt 1))), (3, .int v3)]) ⟨rfl, rfl, rfl, rfl, trivial⟩ rfl k
      have k := ih (v2 + (Int32.ofInt 1)) (nt_u J (p 30) v2.toNatClampNeg v1) (lx_dec h7 hc) k
      rw [k, x238S_5, if_neg h7]
theorem x238S_5_rule {p : Nat → Nat} {v1 : Int32} {v3 : Int32} {I : Nat → Int32 → (Nat → Nat → Int32) → Prop} {Q : (Nat → Nat → Int32) → Prop} (h0 : ∀ (v2 : Int32) (J : Nat → Nat → Int32), I 0 v2 J → Q J) (h1 : ∀ (c : Nat) (v2 : Int32) (J : Nat → Nat → Int32), I (c + 1) v2 J →
    if v3 ≤ v2 then (Q J)
    else (I c (v2 + (Int32.ofInt 1)) (nt_u J (p 30) v2.toNatClampNeg v1))) : ∀ (c : Nat) (v2 : Int32) (J : Nat → Nat → Int32), I c v2 J → Q (x238S_5 p v1 v3 c v2 J) := by
  intro c
  induction c with
  | zero =>
    intro v2 J hi
    rw [x238S_5]
    exact h0 v2 J hi
  | succ c ih =>
    intro v2 J hi
    have hi := h1 c v2 J hi
    rw [x238S_5]
    by_cases h : v3 ≤ v2
    · rw [if_pos h] at hi ⊢
      exact hi
    · rw [if_neg h] at hi ⊢
      exact ih _ _ hi
def x238S (p : Nat → Nat) (v1 : Int32) (J : Nat → Nat → Int32) : (Nat → Nat → Int32) := (x238S_5 p v1 (Int32.ofNat 4) ((Int32.ofNat 4).toNatClampNeg) (Int32.ofInt 0) J)
theorem xt238S {X : nt_X} {d : Nat} {M : nt_M} {o : Option Value × nt_M} {p : Nat → Nat} {v1 : Int32} {J : Nat → Nat → Int32} (hp : xs_P M p) (hv : xs_V M p) (k : nt_ev X d 238 [.ref (p 30), .int v1] (me_w M J) o) : o = (none, me_w M (x238S p v1 J)) := by
  have k : nt_rn X d 238 (0, [(0, .ref (p 30)), (1, .int v1)], [], me_w M J) o := k
  have k := ly_revb 3 (c' := (3, [(2, .int (Int32.ofInt 0)), (0, .ref (p 30)), (1, .int v1)], [.ref (p 30)], me_w M J)) rfl k
  have k := lz_len rfl (hp.2.2.1 30 (by omega)) k
  rw [show nt_l (me_w M J) (p 30) = 4 from hv.2.2.2] at k
  have k : nt_rn X _ 238 (4, [(2, .int (Int32.ofInt 0)), (0, .ref (p 30)), (1, .int v1)], [.int (Int32.ofNat 4)], me_w M J) _ := k
  have k := ly_revb 1 (c' := (5, [(3, .int (Int32.ofNat 4)), (2, .int (Int32.ofInt 0)), (0, .ref (p 30)), (1, .int v1)], [], me_w M J)) rfl k
  have k := nt_rn_w (a := [(3, .int (Int32.ofNat 4)), (2, .int (Int32.ofInt 0)), (0, .ref (p 30)), (1, .int v1)]) (b := [(0, .ref (p 30)), (1, .int v1), (2, .int (Int32.ofInt 0)), (3, .int (Int32.ofNat 4))]) ⟨rfl, rfl, rfl, rfl, trivial⟩ rfl k
  have k := xt238S_5 hp hv  ((Int32.ofNat 4).toNatClampNeg) (Int32.ofInt 0) J (lx_beg (by decide)) k
  rw [k, x238S]
theorem x238S_5_frJ {p : Nat → Nat} {v1 : Int32} {v3 : Int32} {b : Nat} : ∀ (c : Nat) (v2 : Int32) (J : Nat → Nat → Int32), b ≠ p 30 → x238S_5 p v1 v3 c v2 J b = J b := by
  intro c
  induction c with
  | zero =>
    intro v2 J n0
    rw [x238S_5]
    all_goals first | (dsimp only; exact (show J b = J b from rfl)) | exact (show J b = J b from rfl)
  | succ c ih =>
    intro v2 J n0
    rw [x238S_5]
    by_cases h : v3 ≤ v2
    · rw [if_pos h]
      all_goals first | (dsimp only; exact (show J b = J b from rfl)) | exact (show J b = J b from rfl)
    · rw [if_neg h]
      exact (ih _ _ n0).trans (mu_o n0)
theorem x238S_frJ {p : Nat → Nat} {v1 : Int32} {J : Nat → Nat → Int32} {b : Nat} (n0 : b ≠ p 30) : x238S p v1 J b = J b := by
  unfold x238S
  exact (x238S_5_frJ _ _ _ n0).trans (rfl)
/-! $Plans.look -/
def x12F_31 (p : Nat → Nat) : Nat → Int32 → (Nat → Nat → Int32) → (Nat → Nat → Int32)
  | 0, v2, J => J
  | c + 1, v2, J => if (J (p 32) 2) ≤ v2 then J
    else if (J (p 46) v2.toNatClampNeg) = 0 then if (J (p 44) v2.toNatClampNeg) ≤ 0 then (x12F_31 p c (v2 + (Int32.ofInt 1)) (nt_u (nt_u J (p 29) ((J (p 34) v2.toNatClampNeg).toNatClampNeg) ((J (p 29) ((J (p 34) v2.toNatClampNeg).toNatClampNeg)) + (Int32.ofInt 1))) (p 30) ((J (p 34) v2.toNatClampNeg).toNatClampNeg) ((J (p 30) ((J (p 34) v2.toNatClampNeg).toNatClampNeg)) + (Int32.ofInt 0))))
        else (x12F_31 p c (v2 + (Int32.ofInt 1)) (nt_u (nt_u J (p 29) ((J (p 34) v2.toNatClampNeg).toNatClampNeg) ((J (p 29) ((J (p 34) v2.toNatClampNeg).toNatClampNeg)) + (Int32.ofInt 1))) (p 30) ((J (p 34) v2.toNatClampNeg).toNatClampNeg) ((J (p 30) ((J (p 34) v2.toNatClampNeg).toNatClampNeg)) + (Int32.ofInt 1))))
      else (x12F_31 p c (v2 + (Int32.ofInt 1)) J)
theorem xt12F_31 {X : nt_X} {d : Nat} {M : nt_M} {o : Option Value × nt_M} {p : Nat → Nat} (hp : xs_P M p) (hn : xs_Q M (fun i => p (31 + i))) (hv : xs_V M p) : ∀ (c : Nat) (v2 : Int32) (v3 : Int32) (J : Nat → Nat → Int32), (J (p 32) 2).toInt - v2.toInt ≤ c → nt_rn X d 12 (31, [(0, .ref (p 28)), (1, .ref (p 31)), (2, .int v2), (3, .int v3)], [], me_w M J) o → o = (none, me_w M (x12F_31 p c v2 J)) := by
  intro c
  induction c with
  | zero =>
    intro v2 v3 J hc k
    have k := ly_revb 2 (c' := (33, [(0, .ref (p 28)), (1, .ref (p 31)), (2, .int v2), (3, .int v3)], [.ref (p 28), .int v2], me_w M J)) rfl k
    have k := lz_get (a := (p 28)) (g := 101) (M := me_w M J) (v := .ref (p 32)) rfl (nt_gfR rfl hv.2.1) k
    have k := lz_get (a := (p 32)) (g := 802) (M := me_w M J) (v := .int (J (p 32) 2)) rfl (congrArg Value.int (rfl)) k
    have k := ly_revb 1 (c' := (if (J (p 32) 2) ≤ v2 then 106 else 42, [(0, .ref (p 28)), (1, .ref (p 31)), (2, .int v2), (3, .int v3)], [], me_w M J)) rfl k
    have h39 : (J (p 32) 2) ≤ v2 := lx_end hc
    rw [if_pos h39] at k
    have k := lz_rv rfl rfl k
    rw [k, x12F_31]
  | succ c ih =>
    intro v2 v3 J hc k
    have k := ly_revb 2 (c' := (33, [(0, .ref (p 28)), (1, .ref (p 31)), (2, .int v2), (3, .int v3)], [.ref (p 28), .int v2], me_w M J)) rfl k
    have k := lz_get (a := (p 28)) (g := 101) (M := me_w M J) (v := .ref (p 32)) rfl (nt_gfR rfl hv.2.1) k
    have k := lz_get (a := (p 32)) (g := 802) (M := me_w M J) (v := .int (J (p 32) 2)) rfl (congrArg Value.int (rfl)) k
    have k := ly_revb 1 (c' := (if (J (p 32) 2) ≤ v2 then 106 else 42, [(0, .ref (p 28)), (1, .ref (p 31)), (2, .int v2), (3, .int v3)], [], me_w M J)) rfl k
    by_cases h39 : (J (p 32) 2) ≤ v2
    · rw [if_pos h39] at k
      have k := lz_rv rfl rfl k
      rw [k, x12F_31, if_pos h39]
    · rw [if_neg h39] at k
      have k := ly_revb 1 (c' := (43, [(0, .ref (p 28)), (1, .ref (p 31)), (2, .int v2), (3, .int v3)], [.ref (p 28)], me_w M J)) rfl k
      have k := lz_get (a := (p 28)) (g := 101) (M := me_w M J) (v := .ref (p 32)) rfl (nt_gfR rfl hv.2.1) k
      have k := lz_get (a := (p 32)) (g := 806) (M := me_w M J) (v := .ref (p 34)) rfl (nt_gfR rfl (hn.1 (1, 6, 3) (by decide))) k
      have k := ly_revb 1 (c' := (50, [(0, .ref (p 28)), (1, .ref (p 31)), (2, .int v2), (3, .int v3)], [.int v2, .ref (p 34)], me_w M J)) rfl k
      have k := mx_iald (v := J (p 34) v2.toNatClampNeg) rfl (hp.2.2.1 34 (by omega)) (rfl) k
      have k := ly_revb 2 (c' := (53, [(3, .int (J (p 34) v2.toNatClampNeg)), (0, .ref (p 28)), (1, .ref (p 31)), (2, .int v2)], [.ref (p 28)], me_w M J)) rfl k
      have k := lz_get (a := (p 28)) (g := 100) (M := me_w M J) (v := .ref (p 31)) rfl (nt_gfR rfl hv.1) k
      have k := lz_get (a := (p 31)) (g := 612) (M := me_w M J) (v := .ref (p 46)) rfl (nt_gfR rfl (hn.1 (0, 12, 15) (by decide))) k
      have k := ly_revb 1 (c' := (60, [(3, .int (J (p 34) v2.toNatClampNeg)), (0, .ref (p 28)), (1, .ref (p 31)), (2, .int v2)], [.int v2, .ref (p 46)], me_w M J)) rfl k
      have k := mx_bald (v := J (p 46) v2.toNatClampNeg) rfl (rfl) k
      have k := ly_revb 1 (c' := (if (J (p 46) v2.toNatClampNeg) = 0 then 64 else 100, [(3, .int (J (p 34) v2.toNatClampNeg)), (0, .ref (p 28)), (1, .ref (p 31)), (2, .int v2)], [], me_w M J)) rfl k
      by_cases h61 : (J (p 46) v2.toNatClampNeg) = 0
      · rw [if_pos h61] at k
        have k := ly_revb 1 (c' := (65, [(3, .int (J (p 34) v2.toNatClampNeg)), (0, .ref (p 28)), (1, .ref (p 31)), (2, .int v2)], [.ref (p 28)], me_w M J)) rfl k
        have k := lz_get (a := (p 28)) (g := 102) (M := me_w M J) (v := .ref (p 29)) rfl (nt_gfR rfl (hp.1 (28, 2, 29) (by decide))) k
        have k := ly_revb 2 (c' := (70, [(3, .int (J (p 34) v2.toNatClampNeg)), (0, .ref (p 28)), (1, .ref (p 31)), (2, .int v2)], [.int (J (p 34) v2.toNatClampNeg), .ref (p 29), .int (J (p 34) v2.toNatClampNeg), .ref (p 29)], me_w M J)) rfl k
        have k := mx_iald (v := J (p 29) ((J (p 34) v2.toNatClampNeg).toNatClampNeg)) rfl (hp.2.2.1 29 (by omega)) (rfl) k
        have k := ly_revb 2 (c' := (73, [(3, .int (J (p 34) v2.toNatClampNeg)), (0, .ref (p 28)), (1, .ref (p 31)), (2, .int v2)], [.int ((J (p 29) ((J (p 34) v2.toNatClampNeg).toNatClampNeg)) + (Int32.ofInt 1)), .int (J (p 34) v2.toNatClampNeg), .ref (p 29)], me_w M J)) rfl k
        have k := mx_iast (q := (J (p 34) v2.toNatClampNeg).toNatClampNeg) rfl rfl k
        have k : nt_rn X _ 12 (74, [(3, .int (J (p 34) v2.toNatClampNeg)), (0, .ref (p 28)), (1, .ref (p 31)), (2, .int v2)], [], me_w M (nt_u J (p 29) ((J (p 34) v2.toNatClampNeg).toNatClampNeg) ((J (p 29) ((J (p 34) v2.toNatClampNeg).toNatClampNeg)) + (Int32.ofInt 1)))) _ := k
        have k := ly_revb 1 (c' := (75, [(3, .int (J (p 34) v2.toNatClampNeg)), (0, .ref (p 28)), (1, .ref (p 31)), (2, .int v2)], [.ref (p 28)], me_w M (nt_u J (p 29) ((J (p 34) v2.toNatClampNeg).toNatClampNeg) ((J (p 29) ((J (p 34) v2.toNatClampNeg).toNatClampNeg)) + (Int32.ofInt 1))))) rfl k
        have k := lz_get (a := (p 28)) (g := 103) (M := me_w M (nt_u J (p 29) ((J (p 34) v2.toNatClampNeg).toNatClampNeg) ((J (p 29) ((J (p 34) v2.toNatClampNeg).toNatClampNeg)) + (Int32.ofInt 1)))) (v := .ref (p 30)) rfl (nt_gfR rfl (hp.1 (28, 3, 30) (by decide))) k
        have k := ly_revb 2 (c' := (80, [(3, .int (J (p 34) v2.toNatClampNeg)), (0, .ref (p 28)), (1, .ref (p 31)), (2, .int v2)], [.int (J (p 34) v2.toNatClampNeg), .ref (p 30), .int (J (p 34) v2.toNatClampNeg), .ref (p 30)], me_w M (nt_u J (p 29) ((J (p 34) v2.toNatClampNeg).toNatClampNeg) ((J (p 29) ((J (p 34) v2.toNatClampNeg).toNatClampNeg)) + (Int32.ofInt 1))))) rfl k
        have k := mx_iald (v := J (p 30) ((J (p 34) v2.toNatClampNeg).toNatClampNeg)) rfl (hp.2.2.1 30 (by omega)) (mu_j (hp.2.1 30 29 (by omega) (by omega) (by decide))) k
        have k := ly_revb 1 (c' := (82, [(3, .int (J (p 34) v2.toNatClampNeg)), (0, .ref (p 28)), (1, .ref (p 31)), (2, .int v2)], [.ref (p 28), .int (J (p 30) ((J (p 34) v2.toNatClampNeg).toNatClampNeg)), .int (J (p 34) v2.toNatClampNeg), .ref (p 30)], me_w M (nt_u J (p 29) ((J (p 34) v2.toNatClampNeg).toNatClampNeg) ((J (p 29) ((J (p 34) v2.toNatClampNeg).toNatClampNeg)) + (Int32.ofInt 1))))) rfl k
        have k := lz_get (a := (p 28)) (g := 100) (M := me_w M (nt_u J (p 29) ((J (p 34) v2.toNatClampNeg).toNatClampNeg) ((J (p 29) ((J (p 34) v2.toNatClampNeg).toNatClampNeg)) + (Int32.ofInt 1)))) (v := .ref (p 31)) rfl (nt_gfR rfl hv.1) k
        have k := lz_get (a := (p 31)) (g := 610) (M := me_w M (nt_u J (p 29) ((J (p 34) v2.toNatClampNeg).toNatClampNeg) ((J (p 29) ((J (p 34) v2.toNatClampNeg).toNatClampNeg)) + (Int32.ofInt 1)))) (v := .ref (p 44)) rfl (nt_gfR rfl (hn.1 (0, 10, 13) (by decide))) k
        have k := ly_revb 1 (c' := (89, [(3, .int (J (p 34) v2.toNatClampNeg)), (0, .ref (p 28)), (1, .ref (p 31)), (2, .int v2)], [.int v2, .ref (p 44), .int (J (p 30) ((J (p 34) v2.toNatClampNeg).toNatClampNeg)), .int (J (p 34) v2.toNatClampNeg), .ref (p 30)], me_w M (nt_u J (p 29) ((J (p 34) v2.toNatClampNeg).toNatClampNeg) ((J (p 29) ((J (p 34) v2.toNatClampNeg).toNatClampNeg)) + (Int32.ofInt 1))))) rfl k
        have k := mx_iald (v := J (p 44) v2.toNatClampNeg) rfl (hp.2.2.1 44 (by omega)) (mu_j (hp.2.1 44 29 (by omega) (by omega) (by decide))) k
        have k := ly_revb 1 (c' := (if (J (p 44) v2.toNatClampNeg) ≤ 0 then 97 else 93, [(3, .int (J (p 34) v2.toNatClampNeg)), (0, .ref (p 28)), (1, .ref (p 31)), (2, .int v2)], [.int (J (p 30) ((J (p 34) v2.toNatClampNeg).toNatClampNeg)), .int (J (p 34) v2.toNatClampNeg), .ref (p 30)], me_w M (nt_u J (p 29) ((J (p 34) v2.toNatClampNeg).toNatClampNeg) ((J (p 29) ((J (p 34) v2.toNatClampNeg).toNatClampNeg)) + (Int32.ofInt 1))))) rfl k
        by_cases h90 : (J (p 44) v2.toNatClampNeg) ≤ 0
        · rw [if_pos h90] at k
          have k := ly_revb 2 (c' := (99, [(3, .int (J (p 34) v2.toNatClampNeg)), (0, .ref (p 28)), (1, .ref (p 31)), (2, .int v2)], [.int ((J (p 30) ((J (p 34) v2.toNatClampNeg).toNatClampNeg)) + (Int32.ofInt 0)), .int (J (p 34) v2.toNatClampNeg), .ref (p 30)], me_w M (nt_u J (p 29) ((J (p 34) v2.toNatClampNeg).toNatClampNeg) ((J (p 29) ((J (p 34) v2.toNatClampNeg).toNatClampNeg)) + (Int32.ofInt 1))))) rfl k
          have k := mx_iast (q := (J (p 34) v2.toNatClampNeg).toNatClampNeg) rfl rfl k
          have k : nt_rn X _ 12 (100, [(3, .int (J (p 34) v2.toNatClampNeg)), (0, .ref (p 28)), (1, .ref (p 31)), (2, .int v2)], [], me_w M (nt_u (nt_u J (p 29) ((J (p 34) v2.toNatClampNeg).toNatClampNeg) ((J (p 29) ((J (p 34) v2.toNatClampNeg).toNatClampNeg)) + (Int32.ofInt 1))) (p 30) ((J (p 34) v2.toNatClampNeg).toNatClampNeg) ((J (p 30) ((J (p 34) v2.toNatClampNeg).toNatClampNeg)) + (Int32.ofInt 0)))) _ := k
          have k := ly_revb 2 (c' := (31, [(2, .int (v2 + (Int32.ofInt 1))), (3, .int (J (p 34) v2.toNatClampNeg)), (0, .ref (p 28)), (1, .ref (p 31))], [], me_w M (nt_u (nt_u J (p 29) ((J (p 34) v2.toNatClampNeg).toNatClampNeg) ((J (p 29) ((J (p 34) v2.toNatClampNeg).toNatClampNeg)) + (Int32.ofInt 1))) (p 30) ((J (p 34) v2.toNatClampNeg).toNatClampNeg) ((J (p 30) ((J (p 34) v2.toNatClampNeg).toNatClampNeg)) + (Int32.ofInt 0))))) rfl k
          have k := nt_rn_w (a := [(2, .int (v2 + (Int32.ofInt 1))), (3, .int (J (p 34) v2.toNatClampNeg)), (0, .ref (p 28)), (1, .ref (p 31))]) (b := [(0, .ref (p 28)), (1, .ref (p 31)), (2, .int (v2 + (Int32.ofInt 1))), (3, .int (J (p 34) v2.toNatClampNeg))]) ⟨rfl, rfl, rfl, rfl, trivial⟩ rfl k
          have k := ih (v2 + (Int32.ofInt 1)) (J (p 34) v2.toNatClampNeg) (nt_u (nt_u J (p 29) ((J (p 34) v2.toNatClampNeg).toNatClampNeg) ((J (p 29) ((J (p 34) v2.toNatClampNeg).toNatClampNeg)) + (Int32.ofInt 1))) (p 30) ((J (p 34) v2.toNatClampNeg).toNatClampNeg) ((J (p 30) ((J (p 34) v2.toNatClampNeg).toNatClampNeg)) + (Int32.ofInt 0))) (by rw [show (nt_u (nt_u J (p 29) ((J (p 34) v2.toNatClampNeg).toNatClampNeg) ((J (p 29) ((J (p 34) v2.toNatClampNeg).toNatClampNeg)) + (Int32.ofInt 1))) (p 30) ((J (p 34) v2.toNatClampNeg).toNatClampNeg) ((J (p 30) ((J (p 34) v2.toNatClampNeg).toNatClampNeg)) + (Int32.ofInt 0))) (p 32) 2 = J (p 32) 2 from (mu_j (hp.2.1 32 30 (by omega) (by omega) (by decide))).trans (mu_j (hp.2.1 32 29 (by omega) (by omega) (by decide)))]; exact lx_dec h39 hc) k
          rw [k, x12F_31, if_neg h39, if_pos h61, if_pos h90]
        · rw [if_neg h90] at k
          have k := ly_revb 3 (c' := (99, [(3, .int (J (p 34) v2.toNatClampNeg)), (0, .ref (p 28)), (1, .ref (p 31)), (2, .int v2)], [.int ((J (p 30) ((J (p 34) v2.toNatClampNeg).toNatClampNeg)) + (Int32.ofInt 1)), .int (J (p 34) v2.toNatClampNeg), .ref (p 30)], me_w M (nt_u J (p 29) ((J (p 34) v2.toNatClampNeg).toNatClampNeg) ((J (p 29) ((J (p 34) v2.toNatClampNeg).toNatClampNeg)) + (Int32.ofInt 1))))) rfl k
          have k := mx_iast (q := (J (p 34) v2.toNatClampNeg).toNatClampNeg) rfl rfl k
          have k : nt_rn X _ 12 (100, [(3, .int (J (p 34) v2.toNatClampNeg)), (0, .ref (p 28)), (1, .ref (p 31)), (2, .int v2)], [], me_w M (nt_u (nt_u J (p 29) ((J (p 34) v2.toNatClampNeg).toNatClampNeg) ((J (p 29) ((J (p 34) v2.toNatClampNeg).toNatClampNeg)) + (Int32.ofInt 1))) (p 30) ((J (p 34) v2.toNatClampNeg).toNatClampNeg) ((J (p 30) ((J (p 34) v2.toNatClampNeg).toNatClampNeg)) + (Int32.ofInt 1)))) _ := k
          have k := ly_revb 2 (c' := (31, [(2, .int (v2 + (Int32.ofInt 1))), (3, .int (J (p 34) v2.toNatClampNeg)), (0, .ref (p 28)), (1, .ref (p 31))], [], me_w M (nt_u (nt_u J (p 29) ((J (p 34) v2.toNatClampNeg).toNatClampNeg) ((J (p 29) ((J (p 34) v2.toNatClampNeg).toNatClampNeg)) + (Int32.ofInt 1))) (p 30) ((J (p 34) v2.toNatClampNeg).toNatClampNeg) ((J (p 30) ((J (p 34) v2.toNatClampNeg).toNatClampNeg)) + (Int32.ofInt 1))))) rfl k
          have k := nt_rn_w (a := [(2, .int (v2 + (Int32.ofInt 1))), (3, .int (J (p 34) v2.toNatClampNeg)), (0, .ref (p 28)), (1, .ref (p 31))]) (b := [(0, .ref (p 28)), (1, .ref (p 31)), (2, .int (v2 + (Int32.ofInt 1))), (3, .int (J (p 34) v2.toNatClampNeg))]) ⟨rfl, rfl, rfl, rfl, trivial⟩ rfl k
          have k := ih (v2 + (Int32.ofInt 1)) (J (p 34) v2.toNatClampNeg) (nt_u (nt_u J (p 29) ((J (p 34) v2.toNatClampNeg).toNatClampNeg) ((J (p 29) ((J (p 34) v2.toNatClampNeg).toNatClampNeg)) + (Int32.ofInt 1))) (p 30) ((J (p 34) v2.toNatClampNeg).toNatClampNeg) ((J (p 30) ((J (p 34) v2.toNatClampNeg).toNatClampNeg)) + (Int32.ofInt 1))) (by rw [show (nt_u (nt_u J (p 29) ((J (p 34) v2.toNatClampNeg).toNatClampNeg) ((J (p 29) ((J (p 34) v2.toNatClampNeg).toNatClampNeg)) + (Int32.ofInt 1))) (p 30) ((J (p 34) v2.toNatClampNeg).toNatClampNeg) ((J (p 30) ((J (p 34) v2.toNatClampNeg).toNatClampNeg)) + (Int32.ofInt 1))) (p 32) 2 = J (p 32) 2 from (mu_j (hp.2.1 32 30 (by omega) (by omega) (by decide))).trans (mu_j (hp.2.1 32 29 (by omega) (by omega) (by decide)))]; exact lx_dec h39 hc) k
          rw [k, x12F_31, if_neg h39, if_pos h61, if_neg h90]
      · rw [if_neg h61] at k
        have k := ly_revb 2 (c' := (31, [(2, .int (v2 + (Int32.ofInt 1))), (3, .int (J (p 34) v2.toNatClampNeg)), (0, .ref (p 28)), (1, .ref (p 31))], [], me_w M J)) rfl k
        have k := nt_rn_w (a := [(2, .int (v2 + (Int32.ofInt 1))), (3, .int (J (p 34) v2.toNatClampNeg)), (0, .ref (p 28)), (1, .ref (p 31))]) (b := [(0, .ref (p 28)), (1, .ref (p 31)), (2, .int (v2 + (Int32.ofInt 1))), (3, .int (J (p 34) v2.toNatClampNeg))]) ⟨rfl, rfl, rfl, rfl, trivial⟩ rfl k
        have k := ih (v2 + (Int32.ofInt 1)) (J (p 34) v2.toNatClampNeg) J (lx_dec h39 hc) k
        rw [k, x12F_31, if_neg h39, if_neg h61]
theorem x12F_31_rule {p : Nat → Nat} {I : Nat → Int32 → (Nat → Nat → Int32) → Prop} {Q : (Nat → Nat → Int32) → Prop} (h0 : ∀ (v2 : Int32) (J : Nat → Nat → Int32), I 0 v2 J → Q J) (h1 : ∀ (c : Nat) (v2 : Int32) (J : Nat → Nat → Int32), I (c + 1) v2 J →
    if (J (p 32) 2) ≤ v2 then (Q J)
    else if (J (p 46) v2.toNatClampNeg) = 0 then if (J (p 44) v2.toNatClampNeg) ≤ 0 then (I c (v2 + (Int32.ofInt 1)) (nt_u (nt_u J (p 29) ((J (p 34) v2.toNatClampNeg).toNatClampNeg) ((J (p 29) ((J (p 34) v2.toNatClampNeg).toNatClampNeg)) + (Int32.ofInt 1))) (p 30) ((J (p 34) v2.toNatClampNeg).toNatClampNeg) ((J (p 30) ((J (p 34) v2.toNatClampNeg).toNatClampNeg)) + (Int32.ofInt 0))))
        else (I c (v2 + (Int32.ofInt 1)) (nt_u (nt_u J (p 29) ((J (p 34) v2.toNatClampNeg).toNatClampNeg) ((J (p 29) ((J (p 34) v2.toNatClampNeg).toNatClampNeg)) + (Int32.ofInt 1))) (p 30) ((J (p 34) v2.toNatClampNeg).toNatClampNeg) ((J (p 30) ((J (p 34) v2.toNatClampNeg).toNatClampNeg)) + (Int32.ofInt 1))))
      else (I c (v2 + (Int32.ofInt 1)) J)) : ∀ (c : Nat) (v2 : Int32) (J : Nat → Nat → Int32), I c v2 J → Q (x12F_31 p c v2 J) := by
  intro c
  induction c with
  | zero =>
    intro v2 J hi
    rw [x12F_31]
    exact h0 v2 J hi
  | succ c ih =>
    intro v2 J hi
    have hi := h1 c v2 J hi
    rw [x12F_31]
    by_cases h : (J (p 32) 2) ≤ v2
    · rw [if_pos h] at hi ⊢
      exact hi
    · rw [if_neg h] at hi ⊢
      by_cases h : (J (p 46) v2.toNatClampNeg) = 0
      · rw [if_pos h] at hi ⊢
        by_cases h : (J (p 44) v2.toNatClampNeg) ≤ 0
        · rw [if_pos h] at hi ⊢
          exact ih _ _ hi
        · rw [if_neg h] at hi ⊢
          exact ih _ _ hi
      · rw [if_neg h] at hi ⊢
        exact ih _ _ hi
def x12F (p : Nat → Nat) (J : Nat → Nat → Int32) : (Nat → Nat → Int32) := (x12F_31 p (((x238S p (Int32.ofInt 0) (x238K p (Int32.ofInt 0) J)) (p 32) 2).toNatClampNeg) (Int32.ofInt 0) (x238S p (Int32.ofInt 0) (x238K p (Int32.ofInt 0) J)))
theorem xt12F {X : nt_X} {d : Nat} {M : nt_M} {o : Option Value × nt_M} {p : Nat → Nat} {J : Nat → Nat → Int32} (hp : xs_P M p) (hn : xs_Q M (fun i => p (31 + i))) (hv : xs_V M p) (k : nt_rn X d 12 (13, [(0, .ref (p 28)), (1, .ref (p 31))], [], me_w M J) o) : o = (none, me_w M (x12F p J)) := by
  have k : nt_rn X d 12 (13, [(0, .ref (p 28)), (1, .ref (p 31))], [], me_w M J) o := k
  have k := ly_revb 1 (c' := (14, [(0, .ref (p 28)), (1, .ref (p 31))], [.ref (p 28)], me_w M J)) rfl k
  have k := lz_get (a := (p 28)) (g := 102) (M := me_w M J) (v := .ref (p 29)) rfl (nt_gfR rfl (hp.1 (28, 2, 29) (by decide))) k
  have k := ly_revb 1 (c' := (18, [(0, .ref (p 28)), (1, .ref (p 31))], [.int (Int32.ofInt 0), .ref (p 29)], me_w M J)) rfl k
  obtain ⟨d1, o1, ed, kc, k⟩ := lz_c (g := 238) (q := 0) (vs := [.ref (p 29), .int (Int32.ofInt 0)]) (rest := []) rfl rfl (by decide) (Or.inl ⟨_, rfl, rfl⟩) rfl k
  have e1 := xt238K hp hv kc
  subst e1
  have k : nt_rn X _ 12 (21, [(0, .ref (p 28)), (1, .ref (p 31))], [], me_w M (x238K p (Int32.ofInt 0) J)) _ := k
  have k := ly_revb 1 (c' := (22, [(0, .ref (p 28)), (1, .ref (p 31))], [.ref (p 28)], me_w M (x238K p (Int32.ofInt 0) J))) rfl k
  have k := lz_get (a := (p 28)) (g := 103) (M := me_w M (x238K p (Int32.ofInt 0) J)) (v := .ref (p 30)) rfl (nt_gfR rfl (hp.1 (28, 3, 30) (by decide))) k
  have k := ly_revb 1 (c' := (26, [(0, .ref (p 28)), (1, .ref (p 31))], [.int (Int32.ofInt 0), .ref (p 30)], me_w M (x238K p (Int32.ofInt 0) J))) rfl k
  obtain ⟨d1, o1, ed, kc, k⟩ := lz_c (g := 238) (q := 0) (vs := [.ref (p 30), .int (Int32.ofInt 0)]) (rest := []) rfl rfl (by decide) (Or.inl ⟨_, rfl, rfl⟩) rfl k
  have e1 := xt238S hp hv kc
  subst e1
  have k : nt_rn X _ 12 (29, [(0, .ref (p 28)), (1, .ref (p 31))], [], me_w M (x238S p (Int32.ofInt 0) (x238K p (Int32.ofInt 0) J))) _ := k
  have k := ly_revb 2 (c' := (31, [(2, .int (Int32.ofInt 0)), (0, .ref (p 28)), (1, .ref (p 31))], [], me_w M (x238S p (Int32.ofInt 0) (x238K p (Int32.ofInt 0) J)))) rfl k
  have k := nt_rn_w (a := [(2, .int (Int32.ofInt 0)), (0, .ref (p 28)), (1, .ref (p 31))]) (b := [(0, .ref (p 28)), (1, .ref (p 31)), (2, .int (Int32.ofInt 0)), (3, .int (Int32.ofInt 0))]) ⟨rfl, rfl, rfl, trivial⟩ rfl k
  have k := xt12F_31 hp hn hv  (((x238S p (Int32.ofInt 0) (x238K p (Int32.ofInt 0) J)) (p 32) 2).toNatClampNeg) (Int32.ofInt 0) (Int32.ofInt 0) (x238S p (Int32.ofInt 0) (x238K p (Int32.ofInt 0) J)) (lx_beg (by decide)) k
  rw [k, x12F]
theorem x12F_31_frJ {p : Nat → Nat} {b : Nat} : ∀ (c : Nat) (v2 : Int32) (J : Nat → Nat → Int32), b ≠ p 29 → b ≠ p 30 → x12F_31 p c v2 J b = J b := by
  intro c
  induction c with
  | zero =>
    intro v2 J n0 n1
    rw [x12F_31]
    all_goals first | (dsimp only; exact (show J b = J b from rfl)) | exact (show J b = J b from rfl)
  | succ c ih =>
    intro v2 J n0 n1
    rw [x12F_31]
    by_cases h : (J (p 32) 2) ≤ v2
    · rw [if_pos h]
      all_goals first | (dsimp only; exact (show J b = J b from rfl)) | exact (show J b = J b from rfl)
    · rw [if_neg h]
      by_cases h : (J (p 46) v2.toNatClampNeg) = 0
      · rw [if_pos h]
        by_cases h : (J (p 44) v2.toNatClampNeg) ≤ 0
        · rw [if_pos h]
          exact (ih _ _ n0 n1).trans ((mu_o n1).trans (mu_o n0))
        · rw [if_neg h]
          exact (ih _ _ n0 n1).trans ((mu_o n1).trans (mu_o n0))
      · rw [if_neg h]
        exact (ih _ _ n0 n1).trans (rfl)
theorem x12F_frJ {p : Nat → Nat} {J : Nat → Nat → Int32} {b : Nat} (n0 : b ≠ p 29) (n1 : b ≠ p 30) : x12F p J b = J b := by
  unfold x12F
  exact (x12F_31_frJ _ _ _ n0 n1).trans ((x238S_frJ  n1).trans (x238K_frJ  n0))
/-! $Plans.payOfVoyages -/
def x20_4 (p : Nat → Nat) (v1 : Int32) (J : Nat → Nat → Int32) : Nat → Int32 → Int32 → Int32
  | 0, v2, v3 => v2
  | c + 1, v2, v3 => if (J (p 32) 3) ≤ v3 then v2
    else if (x14 v1 v3) = 0 then (x20_4 p v1 J c v2 (v3 + (Int32.ofInt 1)))
      else (x20_4 p v1 J c (v2 + (J (p 40) v3.toNatClampNeg)) (v3 + (Int32.ofInt 1)))
theorem xt20_4 {X : nt_X} {d : Nat} {M : nt_M} {o : Option Value × nt_M} {p : Nat → Nat} {v1 : Int32} {J : Nat → Nat → Int32} (hp : xs_P M p) (hn : xs_Q M (fun i => p (31 + i))) (hv : xs_V M p) : ∀ (c : Nat) (v2 : Int32) (v3 : Int32), (J (p 32) 3).toInt - v3.toInt ≤ c → nt_rn X d 20 (4, [(0, .ref (p 28)), (1, .int v1), (2, .int v2), (3, .int v3)], [], me_w M J) o → o = (some (.int (x20_4 p v1 J c v2 v3)), me_w M J) := by
  intro c
  induction c with
  | zero =>
    intro v2 v3 hc k
    have k := ly_revb 2 (c' := (6, [(0, .ref (p 28)), (1, .int v1), (2, .int v2), (3, .int v3)], [.ref (p 28), .int v3], me_w M J)) rfl k
    have k := lz_get (a := (p 28)) (g := 101) (M := me_w M J) (v := .ref (p 32)) rfl (nt_gfR rfl hv.2.1) k
    have k := lz_get (a := (p 32)) (g := 803) (M := me_w M J) (v := .int (J (p 32) 3)) rfl (congrArg Value.int (rfl)) k
    have k := ly_revb 1 (c' := (if (J (p 32) 3) ≤ v3 then 41 else 15, [(0, .ref (p 28)), (1, .int v1), (2, .int v2), (3, .int v3)], [], me_w M J)) rfl k
    have h12 : (J (p 32) 3) ≤ v3 := lx_end hc
    rw [if_pos h12] at k
    have k := ly_revb 1 (c' := (42, [(0, .ref (p 28)), (1, .int v1), (2, .int v2), (3, .int v3)], [.int v2], me_w M J)) rfl k
    have k := lz_ri rfl (by decide) k
    rw [k, x20_4]
  | succ c ih =>
    intro v2 v3 hc k
    have k := ly_revb 2 (c' := (6, [(0, .ref (p 28)), (1, .int v1), (2, .int v2), (3, .int v3)], [.ref (p 28), .int v3], me_w M J)) rfl k
    have k := lz_get (a := (p 28)) (g := 101) (M := me_w M J) (v := .ref (p 32)) rfl (nt_gfR rfl hv.2.1) k
    have k := lz_get (a := (p 32)) (g := 803) (M := me_w M J) (v := .int (J (p 32) 3)) rfl (congrArg Value.int (rfl)) k
    have k := ly_revb 1 (c' := (if (J (p 32) 3) ≤ v3 then 41 else 15, [(0, .ref (p 28)), (1, .int v1), (2, .int v2), (3, .int v3)], [], me_w M J)) rfl k
    by_cases h12 : (J (p 32) 3) ≤ v3
    · rw [if_pos h12] at k
      have k := ly_revb 1 (c' := (42, [(0, .ref (p 28)), (1, .int v1), (2, .int v2), (3, .int v3)], [.int v2], me_w M J)) rfl k
      have k := lz_ri rfl (by decide) k
      rw [k, x20_4, if_pos h12]
    · rw [if_neg h12] at k
      have k := ly_revb 2 (c' := (17, [(0, .ref (p 28)), (1, .int v1), (2, .int v2), (3, .int v3)], [.int v3, .int v1], me_w M J)) rfl k
      obtain ⟨d1, o1, ed, kc, k⟩ := lz_c (g := 14) (q := 0) (vs := [.int v1, .int v3]) (rest := []) rfl rfl (by decide) (Or.inl ⟨_, rfl, rfl⟩) rfl k
      have e1 := xt14  kc
      subst e1
      have k : nt_rn X _ 20 (20, [(0, .ref (p 28)), (1, .int v1), (2, .int v2), (3, .int v3)], [.int (x14 v1 v3)], me_w M J) _ := k
      have k := ly_revb 1 (c' := (if (x14 v1 v3) = 0 then 35 else 23, [(0, .ref (p 28)), (1, .int v1), (2, .int v2), (3, .int v3)], [], me_w M J)) rfl k
      by_cases h20 : (x14 v1 v3) = 0
      · rw [if_pos h20] at k
        have k := ly_revb 2 (c' := (4, [(3, .int (v3 + (Int32.ofInt 1))), (0, .ref (p 28)), (1, .int v1), (2, .int v2)], [], me_w M J)) rfl k
        have k := nt_rn_w (a := [(3, .int (v3 + (Int32.ofInt 1))), (0, .ref (p 28)), (1, .int v1), (2, .int v2)]) (b := [(0, .ref (p 28)), (1, .int v1), (2, .int v2), (3, .int (v3 + (Int32.ofInt 1)))]) ⟨rfl, rfl, rfl, rfl, trivial⟩ rfl k
        have k := ih v2 (v3 + (Int32.ofInt 1)) (lx_dec h12 hc) k
        rw [k, x20_4, if_neg h12, if_pos h20]
      · rw [if_neg h20] at k
        have k := ly_revb 2 (c' := (25, [(0, .ref (p 28)), (1, .int v1), (2, .int v2), (3, .int v3)], [.ref (p 28), .int v2], me_w M J)) rfl k
        have k := lz_get (a := (p 28)) (g := 101) (M := me_w M J) (v := .ref (p 32)) rfl (nt_gfR rfl hv.2.1) k
        have k := lz_get (a := (p 32)) (g := 812) (M := me_w M J) (v := .ref (p 40)) rfl (nt_gfR rfl (hn.1 (1, 12, 9) (by decide))) k
        have k := ly_revb 1 (c' := (32, [(0, .ref (p 28)), (1, .int v1), (2, .int v2), (3, .int v3)], [.int v3, .ref (p 40), .int v2], me_w M J)) rfl k
        have k := mx_iald (v := J (p 40) v3.toNatClampNeg) rfl (hp.2.2.1 40 (by omega)) (rfl) k
        have k := ly_revb 4 (c' := (4, [(3, .int (v3 + (Int32.ofInt 1))), (2, .int (v2 + (J (p 40) v3.toNatClampNeg))), (0, .ref (p 28)), (1, .int v1)], [], me_w M J)) rfl k
        have k := nt_rn_w (a := [(3, .int (v3 + (Int32.ofInt 1))), (2, .int (v2 + (J (p 40) v3.toNatClampNeg))), (0, .ref (p 28)), (1, .int v1)]) (b := [(0, .ref (p 28)), (1, .int v1), (2, .int (v2 + (J (p 40) v3.toNatClampNeg))), (3, .int (v3 + (Int32.ofInt 1)))]) ⟨rfl, rfl, rfl, rfl, trivial⟩ rfl k
        have k := ih (v2 + (J (p 40) v3.toNatClampNeg)) (v3 + (Int32.ofInt 1)) (lx_dec h12 hc) k
        rw [k, x20_4, if_neg h12, if_neg h20]
theorem x20_4_rule {p : Nat → Nat} {v1 : Int32} {J : Nat → Nat → Int32} {I : Nat → Int32 → Int32 → Prop} {Q : Int32 → Prop} (h0 : ∀ (v2 : Int32) (v3 : Int32), I 0 v2 v3 → Q v2) (h1 : ∀ (c : Nat) (v2 : Int32) (v3 : Int32), I (c + 1) v2 v3 →
    if (J (p 32) 3) ≤ v3 then (Q v2)
    else if (x14 v1 v3) = 0 then (I c v2 (v3 + (Int32.ofInt 1)))
      else (I c (v2 + (J (p 40) v3.toNatClampNeg)) (v3 + (Int32.ofInt 1)))) : ∀ (c : Nat) (v2 : Int32) (v3 : Int32), I c v2 v3 → Q (x20_4 p v1 J c v2 v3) := by
  intro c
  induction c with
  | zero =>
    intro v2 v3 hi
    rw [x20_4]
    exact h0 v2 v3 hi
  | succ c ih =>
    intro v2 v3 hi
    have hi := h1 c v2 v3 hi
    rw [x20_4]
    by_cases h : (J (p 32) 3) ≤ v3
    · rw [if_pos h] at hi ⊢
      exact hi
    · rw [if_neg h] at hi ⊢
      by_cases h : (x14 v1 v3) = 0
      · rw [if_pos h] at hi ⊢
        exact ih _ _ hi
      · rw [if_neg h] at hi ⊢
        exact ih _ _ hi
def x20 (p : Nat → Nat) (v1 : Int32) (J : Nat → Nat → Int32) : Int32 := (x20_4 p v1 J ((J (p 32) 3).toNatClampNeg) (Int32.ofInt 0) (Int32.ofInt 0))
theorem xt20 {X : nt_X} {d : Nat} {M : nt_M} {o : Option Value × nt_M} {p : Nat → Nat} {v1 : Int32} {J : Nat → Nat → Int32} (hp : xs_P M p) (hn : xs_Q M (fun i => p (31 + i))) (hv : xs_V M p) (k : nt_ev X d 20 [.ref (p 28), .int v1] (me_w M J) o) : o = (some (.int (x20 p v1 J)), me_w M J) := by
  have k : nt_rn X d 20 (0, [(0, .ref (p 28)), (1, .int v1)], [], me_w M J) o := k
  have k := ly_revb 4 (c' := (4, [(3, .int (Int32.ofInt 0)), (2, .int (Int32.ofInt 0)), (0, .ref (p 28)), (1, .int v1)], [], me_w M J)) rfl k
  have k := nt_rn_w (a := [(3, .int (Int32.ofInt 0)), (2, .int (Int32.ofInt 0)), (0, .ref (p 28)), (1, .int v1)]) (b := [(0, .ref (p 28)), (1, .int v1), (2, .int (Int32.ofInt 0)), (3, .int (Int32.ofInt 0))]) ⟨rfl, rfl, rfl, rfl, trivial⟩ rfl k
  have k := xt20_4 hp hn hv  ((J (p 32) 3).toNatClampNeg) (Int32.ofInt 0) (Int32.ofInt 0) (lx_beg (by decide)) k
  rw [k, x20]
/-! $Plans.underWay -/
def x16_5 (p : Nat → Nat) (v1 : Int32) (v2 : Int32) (J : Nat → Nat → Int32) : Nat → Int32 → Int32 → Int32
  | 0, v3, v4 => v3
  | c + 1, v3, v4 => if (J (p 32) 3) ≤ v4 then v3
    else if (x14 v1 v4) = 0 then (x16_5 p v1 v2 J c v3 (v4 + (Int32.ofInt 1)))
      else if v2 < (J (p 38) v4.toNatClampNeg) then (x16_5 p v1 v2 J c v3 (v4 + (Int32.ofInt 1)))
        else if (J (p 39) v4.toNatClampNeg) ≤ v2 then (x16_5 p v1 v2 J c v3 (v4 + (Int32.ofInt 1)))
          else (x16_5 p v1 v2 J c (v3 ||| ((Int32.ofInt 1) <<< (v4 &&& 31))) (v4 + (Int32.ofInt 1)))
theorem xt16_5 {X : nt_X} {d : Nat} {M : nt_M} {o : Option Value × nt_M} {p : Nat → Nat} {v1 : Int32} {v2 : Int32} {J : Nat → Nat → Int32} (hp : xs_P M p) (hn : xs_Q M (fun i => p (31 + i))) (hv : xs_V M p) : ∀ (c : Nat) (v3 : Int32) (v4 : Int32), (J (p 32) 3).toInt - v4.toInt ≤ c → nt_rn X d 16 (5, [(0, .ref (p 28)), (1, .int v1), (2, .int v2), (3, .int v3), (4, .int v4)], [], me_w M J) o → o = (some (.int (x16_5 p v1 v2 J c v3 v4)), me_w M J) := by
  intro c
  induction c with
  | zero =>
    intro v3 v4 hc k
    have k := ly_revb 2 (c' := (8, [(0, .ref (p 28)), (1, .int v1), (2, .int v2), (3, .int v3), (4, .int v4)], [.ref (p 28), .int v4], me_w M J)) rfl k
    have k := lz_get (a := (p 28)) (g := 101) (M := me_w M J) (v := .ref (p 32)) rfl (nt_gfR rfl hv.2.1) k
    have k := lz_get (a := (p 32)) (g := 803) (M := me_w M J) (v := .int (J (p 32) 3)) rfl (congrArg Value.int (rfl)) k
    have k := ly_revb 1 (c' := (if (J (p 32) 3) ≤ v4 then 67 else 17, [(0, .ref (p 28)), (1, .int v1), (2, .int v2), (3, .int v3), (4, .int v4)], [], me_w M J)) rfl k
    have h14 : (J (p 32) 3) ≤ v4 := lx_end hc
    rw [if_pos h14] at k
    have k := ly_revb 1 (c' := (68, [(0, .ref (p 28)), (1, .int v1), (2, .int v2), (3, .int v3), (4, .int v4)], [.int v3], me_w M J)) rfl k
    have k := lz_ri rfl (by decide) k
    rw [k, x16_5]
  | succ c ih =>
    intro v3 v4 hc k
    have k := ly_revb 2 (c' := (8, [(0, .ref (p 28)), (1, .int v1), (2, .int v2), (3, .int v3), (4, .int v4)], [.ref (p 28), .int v4], me_w M J)) rfl k
    have k := lz_get (a := (p 28)) (g := 101) (M := me_w M J) (v := .ref (p 32)) rfl (nt_gfR rfl hv.2.1) k
    have k := lz_get (a := (p 32)) (g := 803) (M := me_w M J) (v := .int (J (p 32) 3)) rfl (congrArg Value.int (rfl)) k
    have k := ly_revb 1 (c' := (if (J (p 32) 3) ≤ v4 then 67 else 17, [(0, .ref (p 28)), (1, .int v1), (2, .int v2), (3, .int v3), (4, .int v4)], [], me_w M J)) rfl k
    by_cases h14 : (J (p 32) 3) ≤ v4
    · rw [if_pos h14] at k
      have k := ly_revb 1 (c' := (68, [(0, .ref (p 28)), (1, .int v1), (2, .int v2), (3, .int v3), (4, .int v4)], [.int v3], me_w M J)) rfl k
      have k := lz_ri rfl (by decide) k
      rw [k, x16_5, if_pos h14]
    · rw [if_neg h14] at k
      have k := ly_revb 2 (c' := (20, [(0, .ref (p 28)), (1, .int v1), (2, .int v2), (3, .int v3), (4, .int v4)], [.int v4, .int v1], me_w M J)) rfl k
      obtain ⟨d1, o1, ed, kc, k⟩ := lz_c (g := 14) (q := 0) (vs := [.int v1, .int v4]) (rest := []) rfl rfl (by decide) (Or.inl ⟨_, rfl, rfl⟩) rfl k
      have e1 := xt14  kc
      subst e1
      have k : nt_rn X _ 16 (23, [(0, .ref (p 28)), (1, .int v1), (2, .int v2), (3, .int v3), (4, .int v4)], [.int (x14 v1 v4)], me_w M J) _ := k
      have k := ly_revb 1 (c' := (if (x14 v1 v4) = 0 then 61 else 26, [(0, .ref (p 28)), (1, .int v1), (2, .int v2), (3, .int v3), (4, .int v4)], [], me_w M J)) rfl k
      by_cases h23 : (x14 v1 v4) = 0
      · rw [if_pos h23] at k
        have k := ly_revb 2 (c' := (5, [(4, .int (v4 + (Int32.ofInt 1))), (0, .ref (p 28)), (1, .int v1), (2, .int v2), (3, .int v3)], [], me_w M J)) rfl k
        have k := nt_rn_w (a := [(4, .int (v4 + (Int32.ofInt 1))), (0, .ref (p 28)), (1, .int v1), (2, .int v2), (3, .int v3)]) (b := [(0, .ref (p 28)), (1, .int v1), (2, .int v2), (3, .int v3), (4, .int (v4 + (Int32.ofInt 1)))]) ⟨rfl, rfl, rfl, rfl, rfl, trivial⟩ rfl k
        have k := ih v3 (v4 + (Int32.ofInt 1)) (lx_dec h14 hc) k
        rw [k, x16_5, if_neg h14, if_pos h23]
      · rw [if_neg h23] at k
        have k := ly_revb 1 (c' := (27, [(0, .ref (p 28)), (1, .int v1), (2, .int v2), (3, .int v3), (4, .int v4)], [.ref (p 28)], me_w M J)) rfl k
        have k := lz_get (a := (p 28)) (g := 101) (M := me_w M J) (v := .ref (p 32)) rfl (nt_gfR rfl hv.2.1) k
        have k := lz_get (a := (p 32)) (g := 810) (M := me_w M J) (v := .ref (p 38)) rfl (nt_gfR rfl (hn.1 (1, 10, 7) (by decide))) k
        have k := ly_revb 1 (c' := (35, [(0, .ref (p 28)), (1, .int v1), (2, .int v2), (3, .int v3), (4, .int v4)], [.int v4, .ref (p 38)], me_w M J)) rfl k
        have k := mx_iald (v := J (p 38) v4.toNatClampNeg) rfl (hp.2.2.1 38 (by omega)) (rfl) k
        have k := ly_revb 2 (c' := (if v2 < (J (p 38) v4.toNatClampNeg) then 61 else 40, [(0, .ref (p 28)), (1, .int v1), (2, .int v2), (3, .int v3), (4, .int v4)], [], me_w M J)) rfl k
        by_cases h37 : v2 < (J (p 38) v4.toNatClampNeg)
        · rw [if_pos h37] at k
          have k := ly_revb 2 (c' := (5, [(4, .int (v4 + (Int32.ofInt 1))), (0, .ref (p 28)), (1, .int v1), (2, .int v2), (3, .int v3)], [], me_w M J)) rfl k
          have k := nt_rn_w (a := [(4, .int (v4 + (Int32.ofInt 1))), (0, .ref (p 28)), (1, .int v1), (2, .int v2), (3, .int v3)]) (b := [(0, .ref (p 28)), (1, .int v1), (2, .int v2), (3, .int v3), (4, .int (v4 + (Int32.ofInt 1)))]) ⟨rfl, rfl, rfl, rfl, rfl, trivial⟩ rfl k
          have k := ih v3 (v4 + (Int32.ofInt 1)) (lx_dec h14 hc) k
          rw [k, x16_5, if_neg h14, if_neg h23, if_pos h37]
        · rw [if_neg h37] at k
          have k := ly_revb 2 (c' := (42, [(0, .ref (p 28)), (1, .int v1), (2, .int v2), (3, .int v3), (4, .int v4)], [.ref (p 28), .int v2], me_w M J)) rfl k
          have k := lz_get (a := (p 28)) (g := 101) (M := me_w M J) (v := .ref (p 32)) rfl (nt_gfR rfl hv.2.1) k
          have k := lz_get (a := (p 32)) (g := 811) (M := me_w M J) (v := .ref (p 39)) rfl (nt_gfR rfl (hn.1 (1, 11, 8) (by decide))) k
          have k := ly_revb 1 (c' := (50, [(0, .ref (p 28)), (1, .int v1), (2, .int v2), (3, .int v3), (4, .int v4)], [.int v4, .ref (p 39), .int v2], me_w M J)) rfl k
          have k := mx_iald (v := J (p 39) v4.toNatClampNeg) rfl (hp.2.2.1 39 (by omega)) (rfl) k
          have k := ly_revb 1 (c' := (if (J (p 39) v4.toNatClampNeg) ≤ v2 then 61 else 54, [(0, .ref (p 28)), (1, .int v1), (2, .int v2), (3, .int v3), (4, .int v4)], [], me_w M J)) rfl k
          by_cases h51 : (J (p 39) v4.toNatClampNeg) ≤ v2
          · rw [if_pos h51] at k
            have k := ly_revb 2 (c' := (5, [(4, .int (v4 + (Int32.ofInt 1))), (0, .ref (p 28)), (1, .int v1), (2, .int v2), (3, .int v3)], [], me_w M J)) rfl k
            have k := nt_rn_w (a := [(4, .int (v4 + (Int32.ofInt 1))), (0, .ref (p 28)), (1, .int v1), (2, .int v2), (3, .int v3)]) (b := [(0, .ref (p 28)), (1, .int v1), (2, .int v2), (3, .int v3), (4, .int (v4 + (Int32.ofInt 1)))]) ⟨rfl, rfl, rfl, rfl, rfl, trivial⟩ rfl k
            have k := ih v3 (v4 + (Int32.ofInt 1)) (lx_dec h14 hc) k
            rw [k, x16_5, if_neg h14, if_neg h23, if_neg h37, if_pos h51]
          · rw [if_neg h51] at k
            have k := ly_revb 8 (c' := (5, [(4, .int (v4 + (Int32.ofInt 1))), (3, .int (v3 ||| ((Int32.ofInt 1) <<< (v4 &&& 31)))), (0, .ref (p 28)), (1, .int v1), (2, .int v2)], [], me_w M J)) rfl k
            have k := nt_rn_w (a := [(4, .int (v4 + (Int32.ofInt 1))), (3, .int (v3 ||| ((Int32.ofInt 1) <<< (v4 &&& 31)))), (0, .ref (p 28)), (1, .int v1), (2, .int v2)]) (b := [(0, .ref (p 28)), (1, .int v1), (2, .int v2), (3, .int (v3 ||| ((Int32.ofInt 1) <<< (v4 &&& 31)))), (4, .int (v4 + (Int32.ofInt 1)))]) ⟨rfl, rfl, rfl, rfl, rfl, trivial⟩ rfl k
            have k := ih (v3 ||| ((Int32.ofInt 1) <<< (v4 &&& 31))) (v4 + (Int32.ofInt 1)) (lx_dec h14 hc) k
            rw [k, x16_5, if_neg h14, if_neg h23, if_neg h37, if_neg h51]
theorem x16_5_rule {p : Nat → Nat} {v1 : Int32} {v2 : Int32} {J : Nat → Nat → Int32} {I : Nat → Int32 → Int32 → Prop} {Q : Int32 → Prop} (h0 : ∀ (v3 : Int32) (v4 : Int32), I 0 v3 v4 → Q v3) (h1 : ∀ (c : Nat) (v3 : Int32) (v4 : Int32), I (c + 1) v3 v4 →
    if (J (p 32) 3) ≤ v4 then (Q v3)
    else if (x14 v1 v4) = 0 then (I c v3 (v4 + (Int32.ofInt 1)))
      else if v2 < (J (p 38) v4.toNatClampNeg) then (I c v3 (v4 + (Int32.ofInt 1)))
        else if (J (p 39) v4.toNatClampNeg) ≤ v2 then (I c v3 (v4 + (Int32.ofInt 1)))
          else (I c (v3 ||| ((Int32.ofInt 1) <<< (v4 &&& 31))) (v4 + (Int32.ofInt 1)))) : ∀ (c : Nat) (v3 : Int32) (v4 : Int32), I c v3 v4 → Q (x16_5 p v1 v2 J c v3 v4) := by
  intro c
  induction c with
  | zero =>
    intro v3 v4 hi
    rw [x16_5]
    exact h0 v3 v4 hi
  | succ c ih =>
    intro v3 v4 hi
    have hi := h1 c v3 v4 hi
    rw [x16_5]
    by_cases h : (J (p 32) 3) ≤ v4
    · rw [if_pos h] at hi ⊢
      exact hi
    · rw [if_neg h] at hi ⊢
      by_cases h : (x14 v1 v4) = 0
      · rw [if_pos h] at hi ⊢
        exact ih _ _ hi
      · rw [if_neg h] at hi ⊢
        by_cases h : v2 < (J (p 38) v4.toNatClampNeg)
        · rw [if_pos h] at hi ⊢
          exact ih _ _ hi
        · rw [if_neg h] at hi ⊢
          by_cases h : (J (p 39) v4.toNatClampNeg) ≤ v2
          · rw [if_pos h] at hi ⊢
            exact ih _ _ hi
          · rw [if_neg h] at hi ⊢
            exact ih _ _ hi
def x16 (p : Nat → Nat) (v1 : Int32) (v2 : Int32) (J : Nat → Nat → Int32) : Int32 := (x16_5 p v1 v2 J ((J (p 32) 3).toNatClampNeg) (Int32.ofInt 0) (Int32.ofInt 0))
theorem xt16 {X : nt_X} {d : Nat} {M : nt_M} {o : Option Value × nt_M} {p : Nat → Nat} {v1 : Int32} {v2 : Int32} {J : Nat → Nat → Int32} (hp : xs_P M p) (hn : xs_Q M (fun i => p (31 + i))) (hv : xs_V M p) (k : nt_ev X d 16 [.ref (p 28), .int v1, .int v2] (me_w M J) o) : o = (some (.int (x16 p v1 v2 J)), me_w M J) := by
  have k : nt_rn X d 16 (0, [(0, .ref (p 28)), (1, .int v1), (2, .int v2)], [], me_w M J) o := k
  have k := ly_revb 4 (c' := (5, [(4, .int (Int32.ofInt 0)), (3, .int (Int32.ofInt 0)), (0, .ref (p 28)), (1, .int v1), (2, .int v2)], [], me_w M J)) rfl k
  have k := nt_rn_w (a := [(4, .int (Int32.ofInt 0)), (3, .int (Int32.ofInt 0)), (0, .ref (p 28)), (1, .int v1), (2, .int v2)]) (b := [(0, .ref (p 28)), (1, .int v1), (2, .int v2), (3, .int (Int32.ofInt 0)), (4, .int (Int32.ofInt 0))]) ⟨rfl, rfl, rfl, rfl, rfl, trivial⟩ rfl k
  have k := xt16_5 hp hn hv  ((J (p 32) 3).toNatClampNeg) (Int32.ofInt 0) (Int32.ofInt 0) (lx_beg (by decide)) k
  rw [k, x16]
/-! $Plans.wanted -/
def x17_5 (p : Nat → Nat) (v1 : Int32) (v2 : Int32) (J : Nat → Nat → Int32) : Nat → Int32 → Int32 → Int32
  | 0, v3, v4 => v3
  | c + 1, v3, v4 => if (J (p 32) 3) ≤ v4 then v3
    else if (x14 v1 v4) = 0 then (x17_5 p v1 v2 J c v3 (v4 + (Int32.ofInt 1)))
      else (x17_5 p v1 v2 J c (v3 + (x87 (fun i => p (31 + i)) (J (p 37) v4.toNatClampNeg) v2 J)) (v4 + (Int32.ofInt 1)))
theorem xt17_5 {X : nt_X} {d : Nat} {M : nt_M} {o : Option Value × nt_M} {p : Nat → Nat} {v1 : Int32} {v2 : Int32} {J : Nat → Nat → Int32} (hp : xs_P M p) (hn : xs_Q M (fun i => p (31 + i))) (hv : xs_V M p) : ∀ (c : Nat) (v3 : Int32) (v4 : Int32), (J (p 32) 3).toInt - v4.toInt ≤ c → nt_rn X d 17 (5, [(0, .ref (p 28)), (1, .int v1), (2, .int v2), (3, .int v3), (4, .int v4)], [], me_w M J) o → o = (some (.int (x17_5 p v1 v2 J c v3 v4)), me_w M J) := by
  intro c
  induction c with
  | zero =>
    intro v3 v4 hc k
    have k := ly_revb 2 (c' := (8, [(0, .ref (p 28)), (1, .int v1), (2, .int v2), (3, .int v3), (4, .int v4)], [.ref (p 28), .int v4], me_w M J)) rfl k
    have k := lz_get (a := (p 28)) (g := 101) (M := me_w M J) (v := .ref (p 32)) rfl (nt_gfR rfl hv.2.1) k
    have k := lz_get (a := (p 32)) (g := 803) (M := me_w M J) (v := .int (J (p 32) 3)) rfl (congrArg Value.int (rfl)) k
    have k := ly_revb 1 (c' := (if (J (p 32) 3) ≤ v4 then 53 else 17, [(0, .ref (p 28)), (1, .int v1), (2, .int v2), (3, .int v3), (4, .int v4)], [], me_w M J)) rfl k
    have h14 : (J (p 32) 3) ≤ v4 := lx_end hc
    rw [if_pos h14] at k
    have k := ly_revb 1 (c' := (54, [(0, .ref (p 28)), (1, .int v1), (2, .int v2), (3, .int v3), (4, .int v4)], [.int v3], me_w M J)) rfl k
    have k := lz_ri rfl (by decide) k
    rw [k, x17_5]
  | succ c ih =>
    intro v3 v4 hc k
    have k := ly_revb 2 (c' := (8, [(0, .ref (p 28)), (1, .int v1), (2, .int v2), (3, .int v3), (4, .int v4)], [.ref (p 28), .int v4], me_w M J)) rfl k
    have k := lz_get (a := (p 28)) (g := 101) (M := me_w M J) (v := .ref (p 32)) rfl (nt_gfR rfl hv.2.1) k
    have k := lz_get (a := (p 32)) (g := 803) (M := me_w M J) (v := .int (J (p 32) 3)) rfl (congrArg Value.int (rfl)) k
    have k := ly_revb 1 (c' := (if (J (p 32) 3) ≤ v4 then 53 else 17, [(0, .ref (p 28)), (1, .int v1), (2, .int v2), (3, .int v3), (4, .int v4)], [], me_w M J)) rfl k
    by_cases h14 : (J (p 32) 3) ≤ v4
    · rw [if_pos h14] at k
      have k := ly_revb 1 (c' := (54, [(0, .ref (p 28)), (1, .int v1), (2, .int v2), (3, .int v3), (4, .int v4)], [.int v3], me_w M J)) rfl k
      have k := lz_ri rfl (by decide) k
      rw [k, x17_5, if_pos h14]
    · rw [if_neg h14] at k
      have k := ly_revb 2 (c' := (20, [(0, .ref (p 28)), (1, .int v1), (2, .int v2), (3, .int v3), (4, .int v4)], [.int v4, .int v1], me_w M J)) rfl k
      obtain ⟨d1, o1, ed, kc, k⟩ := lz_c (g := 14) (q := 0) (vs := [.int v1, .int v4]) (rest := []) rfl rfl (by decide) (Or.inl ⟨_, rfl, rfl⟩) rfl k
      have e1 := xt14  kc
      subst e1
      have k : nt_rn X _ 17 (23, [(0, .ref (p 28)), (1, .int v1), (2, .int v2), (3, .int v3), (4, .int v4)], [.int (x14 v1 v4)], me_w M J) _ := k
      have k := ly_revb 1 (c' := (if (x14 v1 v4) = 0 then 47 else 26, [(0, .ref (p 28)), (1, .int v1), (2, .int v2), (3, .int v3), (4, .int v4)], [], me_w M J)) rfl k
      by_cases h23 : (x14 v1 v4) = 0
      · rw [if_pos h23] at k
        have k := ly_revb 2 (c' := (5, [(4, .int (v4 + (Int32.ofInt 1))), (0, .ref (p 28)), (1, .int v1), (2, .int v2), (3, .int v3)], [], me_w M J)) rfl k
        have k := nt_rn_w (a := [(4, .int (v4 + (Int32.ofInt 1))), (0, .ref (p 28)), (1, .int v1), (2, .int v2), (3, .int v3)]) (b := [(0, .ref (p 28)), (1, .int v1), (2, .int v2), (3, .int v3), (4, .int (v4 + (Int32.ofInt 1)))]) ⟨rfl, rfl, rfl, rfl, rfl, trivial⟩ rfl k
        have k := ih v3 (v4 + (Int32.ofInt 1)) (lx_dec h14 hc) k
        rw [k, x17_5, if_neg h14, if_pos h23]
      · rw [if_neg h23] at k
        have k := ly_revb 2 (c' := (28, [(0, .ref (p 28)), (1, .int v1), (2, .int v2), (3, .int v3), (4, .int v4)], [.ref (p 28), .int v3], me_w M J)) rfl k
        have k := lz_get (a := (p 28)) (g := 101) (M := me_w M J) (v := .ref (p 32)) rfl (nt_gfR rfl hv.2.1) k
        have k := ly_revb 1 (c' := (32, [(0, .ref (p 28)), (1, .int v1), (2, .int v2), (3, .int v3), (4, .int v4)], [.ref (p 28), .ref (p 32), .int v3], me_w M J)) rfl k
        have k := lz_get (a := (p 28)) (g := 101) (M := me_w M J) (v := .ref (p 32)) rfl (nt_gfR rfl hv.2.1) k
        have k := lz_get (a := (p 32)) (g := 809) (M := me_w M J) (v := .ref (p 37)) rfl (nt_gfR rfl (hn.1 (1, 9, 6) (by decide))) k
        have k := ly_revb 1 (c' := (40, [(0, .ref (p 28)), (1, .int v1), (2, .int v2), (3, .int v3), (4, .int v4)], [.int v4, .ref (p 37), .ref (p 32), .int v3], me_w M J)) rfl k
        have k := mx_iald (v := J (p 37) v4.toNatClampNeg) rfl (hp.2.2.1 37 (by omega)) (rfl) k
        have k := ly_revb 1 (c' := (42, [(0, .ref (p 28)), (1, .int v1), (2, .int v2), (3, .int v3), (4, .int v4)], [.int v2, .int (J (p 37) v4.toNatClampNeg), .ref (p 32), .int v3], me_w M J)) rfl k
        obtain ⟨d1, o1, ed, kc, k⟩ := lz_c (g := 87) (q := 1) (vs := [.ref (p 32), .int (J (p 37) v4.toNatClampNeg), .int v2]) (rest := [.int v3]) rfl rfl (by decide) (Or.inr (Or.inl ⟨_, rfl, rfl⟩)) rfl k
        have e1 := xt87 hn kc
        subst e1
        have k : nt_rn X _ 17 (45, [(0, .ref (p 28)), (1, .int v1), (2, .int v2), (3, .int v3), (4, .int v4)], [.int (x87 (fun i => p (31 + i)) (J (p 37) v4.toNatClampNeg) v2 J), .int v3], me_w M J) _ := k
        have k := ly_revb 4 (c' := (5, [(4, .int (v4 + (Int32.ofInt 1))), (3, .int (v3 + (x87 (fun i => p (31 + i)) (J (p 37) v4.toNatClampNeg) v2 J))), (0, .ref (p 28)), (1, .int v1), (2, .int v2)], [], me_w M J)) rfl k
        have k := nt_rn_w (a := [(4, .int (v4 + (Int32.ofInt 1))), (3, .int (v3 + (x87 (fun i => p (31 + i)) (J (p 37) v4.toNatClampNeg) v2 J))), (0, .ref (p 28)), (1, .int v1), (2, .int v2)]) (b := [(0, .ref (p 28)), (1, .int v1), (2, .int v2), (3, .int (v3 + (x87 (fun i => p (31 + i)) (J (p 37) v4.toNatClampNeg) v2 J))), (4, .int (v4 + (Int32.ofInt 1)))]) ⟨rfl, rfl, rfl, rfl, rfl, trivial⟩ rfl k
        have k := ih (v3 + (x87 (fun i => p (31 + i)) (J (p 37) v4.toNatClampNeg) v2 J)) (v4 + (Int32.ofInt 1)) (lx_dec h14 hc) k
        rw [k, x17_5, if_neg h14, if_neg h23]
theorem x17_5_rule {p : Nat → Nat} {v1 : Int32} {v2 : Int32} {J : Nat → Nat → Int32} {I : Nat → Int32 → Int32 → Prop} {Q : Int32 → Prop} (h0 : ∀ (v3 : Int32) (v4 : Int32), I 0 v3 v4 → Q v3) (h1 : ∀ (c : Nat) (v3 : Int32) (v4 : Int32), I (c + 1) v3 v4 →
    if (J (p 32) 3) ≤ v4 then (Q v3)
    else if (x14 v1 v4) = 0 then (I c v3 (v4 + (Int32.ofInt 1)))
      else (I c (v3 + (x87 (fun i => p (31 + i)) (J (p 37) v4.toNatClampNeg) v2 J)) (v4 + (Int32.ofInt 1)))) : ∀ (c : Nat) (v3 : Int32) (v4 : Int32), I c v3 v4 → Q (x17_5 p v1 v2 J c v3 v4) := by
  intro c
  induction c with
  | zero =>
    intro v3 v4 hi
    rw [x17_5]
    exact h0 v3 v4 hi
  | succ c ih =>
    intro v3 v4 hi
    have hi := h1 c v3 v4 hi
    rw [x17_5]
    by_cases h : (J (p 32) 3) ≤ v4
    · rw [if_pos h] at hi ⊢
      exact hi
    · rw [if_neg h] at hi ⊢
      by_cases h : (x14 v1 v4) = 0
      · rw [if_pos h] at hi ⊢
        exact ih _ _ hi
      · rw [if_neg h] at hi ⊢
        exact ih _ _ hi
def x17 (p : Nat → Nat) (v1 : Int32) (v2 : Int32) (J : Nat → Nat → Int32) : Int32 := (x17_5 p v1 v2 J ((J (p 32) 3).toNatClampNeg) (Int32.ofInt 0) (Int32.ofInt 0))
theorem xt17 {X : nt_X} {d : Nat} {M : nt_M} {o : Option Value × nt_M} {p : Nat → Nat} {v1 : Int32} {v2 : Int32} {J : Nat → Nat → Int32} (hp : xs_P M p) (hn : xs_Q M (fun i => p (31 + i))) (hv : xs_V M p) (k : nt_ev X d 17 [.ref (p 28), .int v1, .int v2] (me_w M J) o) : o = (some (.int (x17 p v1 v2 J)), me_w M J) := by
  have k : nt_rn X d 17 (0, [(0, .ref (p 28)), (1, .int v1), (2, .int v2)], [], me_w M J) o := k
  have k := ly_revb 4 (c' := (5, [(4, .int (Int32.ofInt 0)), (3, .int (Int32.ofInt 0)), (0, .ref (p 28)), (1, .int v1), (2, .int v2)], [], me_w M J)) rfl k
  have k := nt_rn_w (a := [(4, .int (Int32.ofInt 0)), (3, .int (Int32.ofInt 0)), (0, .ref (p 28)), (1, .int v1), (2, .int v2)]) (b := [(0, .ref (p 28)), (1, .int v1), (2, .int v2), (3, .int (Int32.ofInt 0)), (4, .int (Int32.ofInt 0))]) ⟨rfl, rfl, rfl, rfl, rfl, trivial⟩ rfl k
  have k := xt17_5 hp hn hv  ((J (p 32) 3).toNatClampNeg) (Int32.ofInt 0) (Int32.ofInt 0) (lx_beg (by decide)) k
  rw [k, x17]
/-! $Plans.isOnTwo -/
def x18_4 (p : Nat → Nat) (v1 : Int32) (J : Nat → Nat → Int32) : Nat → Int32 → Int32 → Int32
  | 0, v2, v3 => (Int32.ofInt 0)
  | c + 1, v2, v3 => if (J (p 32) 3) ≤ v3 then (Int32.ofInt 0)
    else if (x14 v1 v3) = 0 then (x18_4 p v1 J c v2 (v3 + (Int32.ofInt 1)))
      else if (x14 v2 (J (p 37) v3.toNatClampNeg)) = 0 then (x18_4 p v1 J c (v2 ||| ((Int32.ofInt 1) <<< ((J (p 37) v3.toNatClampNeg) &&& 31))) (v3 + (Int32.ofInt 1)))
        else (Int32.ofInt 1)
theorem xt18_4 {X : nt_X} {d : Nat} {M : nt_M} {o : Option Value × nt_M} {p : Nat → Nat} {v1 : Int32} {J : Nat → Nat → Int32} (hp : xs_P M p) (hn : xs_Q M (fun i => p (31 + i))) (hv : xs_V M p) : ∀ (c : Nat) (v2 : Int32) (v3 : Int32), (J (p 32) 3).toInt - v3.toInt ≤ c → nt_rn X d 18 (4, [(0, .ref (p 28)), (1, .int v1), (2, .int v2), (3, .int v3)], [], me_w M J) o → o = (some (.int (x18_4 p v1 J c v2 v3)), me_w M J) := by
  intro c
  induction c with
  | zero =>
    intro v2 v3 hc k
    have k := ly_revb 2 (c' := (6, [(0, .ref (p 28)), (1, .int v1), (2, .int v2), (3, .int v3)], [.ref (p 28), .int v3], me_w M J)) rfl k
    have k := lz_get (a := (p 28)) (g := 101) (M := me_w M J) (v := .ref (p 32)) rfl (nt_gfR rfl hv.2.1) k
    have k := lz_get (a := (p 32)) (g := 803) (M := me_w M J) (v := .int (J (p 32) 3)) rfl (congrArg Value.int (rfl)) k
    have k := ly_revb 1 (c' := (if (J (p 32) 3) ≤ v3 then 61 else 15, [(0, .ref (p 28)), (1, .int v1), (2, .int v2), (3, .int v3)], [], me_w M J)) rfl k
    have h12 : (J (p 32) 3) ≤ v3 := lx_end hc
    rw [if_pos h12] at k
    have k := ly_revb 1 (c' := (62, [(0, .ref (p 28)), (1, .int v1), (2, .int v2), (3, .int v3)], [.int (Int32.ofInt 0)], me_w M J)) rfl k
    have k := lz_ri rfl (by decide) k
    rw [k, x18_4]
  | succ c ih =>
    intro v2 v3 hc k
    have k := ly_revb 2 (c' := (6, [(0, .ref (p 28)), (1, .int v1), (2, .int v2), (3, .int v3)], [.ref (p 28), .int v3], me_w M J)) rfl k
    have k := lz_get (a := (p 28)) (g := 101) (M := me_w M J) (v := .ref (p 32)) rfl (nt_gfR rfl hv.2.1) k
    have k := lz_get (a := (p 32)) (g := 803) (M := me_w M J) (v := .int (J (p 32) 3)) rfl (congrArg Value.int (rfl)) k
    have k := ly_revb 1 (c' := (if (J (p 32) 3) ≤ v3 then 61 else 15, [(0, .ref (p 28)), (1, .int v1), (2, .int v2), (3, .int v3)], [], me_w M J)) rfl k
    by_cases h12 : (J (p 32) 3) ≤ v3
    · rw [if_pos h12] at k
      have k := ly_revb 1 (c' := (62, [(0, .ref (p 28)), (1, .int v1), (2, .int v2), (3, .int v3)], [.int (Int32.ofInt 0)], me_w M J)) rfl k
      have k := lz_ri rfl (by decide) k
      rw [k, x18_4, if_pos h12]
    · rw [if_neg h12] at k
      have k := ly_revb 2 (c' := (17, [(0, .ref (p 28)), (1, .int v1), (2, .int v2), (3, .int v3)], [.int v3, .int v1], me_w M J)) rfl k
      obtain ⟨d1, o1, ed, kc, k⟩ := lz_c (g := 14) (q := 0) (vs := [.int v1, .int v3]) (rest := []) rfl rfl (by decide) (Or.inl ⟨_, rfl, rfl⟩) rfl k
      have e1 := xt14  kc
      subst e1
      have k : nt_rn X _ 18 (20, [(0, .ref (p 28)), (1, .int v1), (2, .int v2), (3, .int v3)], [.int (x14 v1 v3)], me_w M J) _ := k
      have k := ly_revb 1 (c' := (if (x14 v1 v3) = 0 then 55 else 23, [(0, .ref (p 28)), (1, .int v1), (2, .int v2), (3, .int v3)], [], me_w M J)) rfl k
      by_cases h20 : (x14 v1 v3) = 0
      · rw [if_pos h20] at k
        have k := ly_revb 2 (c' := (4, [(3, .int (v3 + (Int32.ofInt 1))), (0, .ref (p 28)), (1, .int v1), (2, .int v2)], [], me_w M J)) rfl k
        have k := nt_rn_w (a := [(3, .int (v3 + (Int32.ofInt 1))), (0, .ref (p 28)), (1, .int v1), (2, .int v2)]) (b := [(0, .ref (p 28)), (1, .int v1), (2, .int v2), (3, .int (v3 + (Int32.ofInt 1)))]) ⟨rfl, rfl, rfl, rfl, trivial⟩ rfl k
        have k := ih v2 (v3 + (Int32.ofInt 1)) (lx_dec h12 hc) k
        rw [k, x18_4, if_neg h12, if_pos h20]
      · rw [if_neg h20] at k
        have k := ly_revb 2 (c' := (25, [(0, .ref (p 28)), (1, .int v1), (2, .int v2), (3, .int v3)], [.ref (p 28), .int v2], me_w M J)) rfl k
        have k := lz_get (a := (p 28)) (g := 101) (M := me_w M J) (v := .ref (p 32)) rfl (nt_gfR rfl hv.2.1) k
        have k := lz_get (a := (p 32)) (g := 809) (M := me_w M J) (v := .ref (p 37)) rfl (nt_gfR rfl (hn.1 (1, 9, 6) (by decide))) k
        have k := ly_revb 1 (c' := (32, [(0, .ref (p 28)), (1, .int v1), (2, .int v2), (3, .int v3)], [.int v3, .ref (p 37), .int v2], me_w M J)) rfl k
        have k := mx_iald (v := J (p 37) v3.toNatClampNeg) rfl (hp.2.2.1 37 (by omega)) (rfl) k
        obtain ⟨d1, o1, ed, kc, k⟩ := lz_c (g := 14) (q := 0) (vs := [.int v2, .int (J (p 37) v3.toNatClampNeg)]) (rest := []) rfl rfl (by decide) (Or.inl ⟨_, rfl, rfl⟩) rfl k
        have e1 := xt14  kc
        subst e1
        have k : nt_rn X _ 18 (36, [(0, .ref (p 28)), (1, .int v1), (2, .int v2), (3, .int v3)], [.int (x14 v2 (J (p 37) v3.toNatClampNeg))], me_w M J) _ := k
        have k := ly_revb 1 (c' := (if (x14 v2 (J (p 37) v3.toNatClampNeg)) = 0 then 41 else 39, [(0, .ref (p 28)), (1, .int v1), (2, .int v2), (3, .int v3)], [], me_w M J)) rfl k
        by_cases h36 : (x14 v2 (J (p 37) v3.toNatClampNeg)) = 0
        · rw [if_pos h36] at k
          have k := ly_revb 3 (c' := (44, [(0, .ref (p 28)), (1, .int v1), (2, .int v2), (3, .int v3)], [.ref (p 28), .int (Int32.ofInt 1), .int v2], me_w M J)) rfl k
          have k := lz_get (a := (p 28)) (g := 101) (M := me_w M J) (v := .ref (p 32)) rfl (nt_gfR rfl hv.2.1) k
          have k := lz_get (a := (p 32)) (g := 809) (M := me_w M J) (v := .ref (p 37)) rfl (nt_gfR rfl (hn.1 (1, 9, 6) (by decide))) k
          have k := ly_revb 1 (c' := (51, [(0, .ref (p 28)), (1, .int v1), (2, .int v2), (3, .int v3)], [.int v3, .ref (p 37), .int (Int32.ofInt 1), .int v2], me_w M J)) rfl k
          have k := mx_iald (v := J (p 37) v3.toNatClampNeg) rfl (hp.2.2.1 37 (by omega)) (rfl) k
          have k := ly_revb 5 (c' := (4, [(3, .int (v3 + (Int32.ofInt 1))), (2, .int (v2 ||| ((Int32.ofInt 1) <<< ((J (p 37) v3.toNatClampNeg) &&& 31)))), (0, .ref (p 28)), (1, .int v1)], [], me_w M J)) rfl k
          have k := nt_rn_w (a := [(3, .int (v3 + (Int32.ofInt 1))), (2, .int (v2 ||| ((Int32.ofInt 1) <<< ((J (p 37) v3.toNatClampNeg) &&& 31)))), (0, .ref (p 28)), (1, .int v1)]) (b := [(0, .ref (p 28)), (1, .int v1), (2, .int (v2 ||| ((Int32.ofInt 1) <<< ((J (p 37) v3.toNatClampNeg) &&& 31)))), (3, .int (v3 + (Int32.ofInt 1)))]) ⟨rfl, rfl, rfl, rfl, trivial⟩ rfl k
          have k := ih (v2 ||| ((Int32.ofInt 1) <<< ((J (p 37) v3.toNatClampNeg) &&& 31))) (v3 + (Int32.ofInt 1)) (lx_dec h12 hc) k
          rw [k, x18_4, if_neg h12, if_neg h20, if_pos h36]
        · rw [if_neg h36] at k
          have k := ly_revb 1 (c' := (40, [(0, .ref (p 28)), (1, .int v1), (2, .int v2), (3, .int v3)], [.int (Int32.ofInt 1)], me_w M J)) rfl k
          have k := lz_ri rfl (by decide) k
          rw [k, x18_4, if_neg h12, if_neg h20, if_neg h36]
theorem x18_4_rule {p : Nat → Nat} {v1 : Int32} {J : Nat → Nat → Int32} {I : Nat → Int32 → Int32 → Prop} {Q : Int32 → Prop} (h0 : ∀ (v2 : Int32) (v3 : Int32), I 0 v2 v3 → Q (Int32.ofInt 0)) (h1 : ∀ (c : Nat) (v2 : Int32) (v3 : Int32), I (c + 1) v2 v3 →
    if (J (p 32) 3) ≤ v3 then (Q (Int32.ofInt 0))
    else if (x14 v1 v3) = 0 then (I c v2 (v3 + (Int32.ofInt 1)))
      else if (x14 v2 (J (p 37) v3.toNatClampNeg)) = 0 then (I c (v2 ||| ((Int32.ofInt 1) <<< ((J (p 37) v3.toNatClampNeg) &&& 31))) (v3 + (Int32.ofInt 1)))
        else (Q (Int32.ofInt 1))) : ∀ (c : Nat) (v2 : Int32) (v3 : Int32), I c v2 v3 → Q (x18_4 p v1 J c v2 v3) := by
  intro c
  induction c with
  | zero =>
    intro v2 v3 hi
    rw [x18_4]
    exact h0 v2 v3 hi
  | succ c ih =>
    intro v2 v3 hi
    have hi := h1 c v2 v3 hi
    rw [x18_4]
    by_cases h : (J (p 32) 3) ≤ v3
    · rw [if_pos h] at hi ⊢
      exact hi
    · rw [if_neg h] at hi ⊢
      by_cases h : (x14 v1 v3) = 0
      · rw [if_pos h] at hi ⊢
        exact ih _ _ hi
      · rw [if_neg h] at hi ⊢
        by_cases h : (x14 v2 (J (p 37) v3.toNatClampNeg)) = 0
        · rw [if_pos h] at hi ⊢
          exact ih _ _ hi
        · rw [if_neg h] at hi ⊢
          exact hi
def x18 (p : Nat → Nat) (v1 : Int32) (J : Nat → Nat → Int32) : Int32 := (x18_4 p v1 J ((J (p 32) 3).toNatClampNeg) (Int32.ofInt 0) (Int32.ofInt 0))
theorem xt18 {X : nt_X} {d : Nat} {M : nt_M} {o : Option Value × nt_M} {p : Nat → Nat} {v1 : Int32} {J : Nat → Nat → Int32} (hp : xs_P M p) (hn : xs_Q M (fun i => p (31 + i))) (hv : xs_V M p) (k : nt_ev X d 18 [.ref (p 28), .int v1] (me_w M J) o) : o = (some (.int (x18 p v1 J)), me_w M J) := by
  have k : nt_rn X d 18 (0, [(0, .ref (p 28)), (1, .int v1)], [], me_w M J) o := k
  have k := ly_revb 4 (c' := (4, [(3, .int (Int32.ofInt 0)), (2, .int (Int32.ofInt 0)), (0, .ref (p 28)), (1, .int v1)], [], me_w M J)) rfl k
  have k := nt_rn_w (a := [(3, .int (Int32.ofInt 0)), (2, .int (Int32.ofInt 0)), (0, .ref (p 28)), (1, .int v1)]) (b := [(0, .ref (p 28)), (1, .int v1), (2, .int (Int32.ofInt 0)), (3, .int (Int32.ofInt 0))]) ⟨rfl, rfl, rfl, rfl, trivial⟩ rfl k
  have k := xt18_4 hp hn hv  ((J (p 32) 3).toNatClampNeg) (Int32.ofInt 0) (Int32.ofInt 0) (lx_beg (by decide)) k
  rw [k, x18]
/-! $Plans.failure -/
def x15_10 (p : Nat → Nat) (v3 : Int32) (J : Nat → Nat → Int32) : Nat → Int32 → Int32
  | 0, v4 => if (x18 p v3 J) = 0 then (Int32.ofInt (-1))
    else (Int32.ofInt 4)
  | c + 1, v4 => if (J (p 32) 0) ≤ v4 then if (x18 p v3 J) = 0 then (Int32.ofInt (-1))
      else (Int32.ofInt 4)
    else if (x17 p v3 v4 J) ≤ (J (p 29) v4.toNatClampNeg) then (x15_10 p v3 J c (v4 + (Int32.ofInt 1)))
      else v4
theorem xt15_10 {X : nt_X} {d : Nat} {M : nt_M} {o : Option Value × nt_M} {p : Nat → Nat} {v1 : Int32} {v2 : Int32} {v3 : Int32} {J : Nat → Nat → Int32} (hp : xs_P M p) (hn : xs_Q M (fun i => p (31 + i))) (hv : xs_V M p) : ∀ (c : Nat) (v4 : Int32), (J (p 32) 0).toInt - v4.toInt ≤ c → nt_rn X d 15 (10, [(0, .ref (p 28)), (1, .int v1), (2, .int v2), (3, .int v3), (4, .int v4)], [], me_w M J) o → o = (some (.int (x15_10 p v3 J c v4)), me_w M J) := by
  intro c
  induction c with
  | zero =>
    intro v4 hc k
    have k := ly_revb 2 (c' := (13, [(0, .ref (p 28)), (1, .int v1), (2, .int v2), (3, .int v3), (4, .int v4)], [.ref (p 28), .int v4], me_w M J)) rfl k
    have k := lz_get (a := (p 28)) (g := 101) (M := me_w M J) (v := .ref (p 32)) rfl (nt_gfR rfl hv.2.1) k
    have k := lz_get (a := (p 32)) (g := 800) (M := me_w M J) (v := .int (J (p 32) 0)) rfl (congrArg Value.int (rfl)) k
    have k := ly_revb 1 (c' := (if (J (p 32) 0) ≤ v4 then 48 else 22, [(0, .ref (p 28)), (1, .int v1), (2, .int v2), (3, .int v3), (4, .int v4)], [], me_w M J)) rfl k
    have h19 : (J (p 32) 0) ≤ v4 := lx_end hc
    rw [if_pos h19] at k
    have k := ly_revb 2 (c' := (50, [(0, .ref (p 28)), (1, .int v1), (2, .int v2), (3, .int v3), (4, .int v4)], [.int v3, .ref (p 28)], me_w M J)) rfl k
    obtain ⟨d1, o1, ed, kc, k⟩ := lz_c (g := 18) (q := 1) (vs := [.ref (p 28), .int v3]) (rest := []) rfl rfl (by decide) (Or.inr (Or.inl ⟨_, rfl, rfl⟩)) rfl k
    have e1 := xt18 hp hn hv kc
    subst e1
    have k : nt_rn X _ 15 (53, [(0, .ref (p 28)), (1, .int v1), (2, .int v2), (3, .int v3), (4, .int v4)], [.int (x18 p v3 J)], me_w M J) _ := k
    have k := ly_revb 1 (c' := (if (x18 p v3 J) = 0 then 60 else 56, [(0, .ref (p 28)), (1, .int v1), (2, .int v2), (3, .int v3), (4, .int v4)], [], me_w M J)) rfl k
    by_cases h53 : (x18 p v3 J) = 0
    · rw [if_pos h53] at k
      have k := ly_revb 1 (c' := (61, [(0, .ref (p 28)), (1, .int v1), (2, .int v2), (3, .int v3), (4, .int v4)], [.int (Int32.ofInt (-1))], me_w M J)) rfl k
      have k := lz_ri rfl (by decide) k
      rw [k, x15_10, if_pos h53]
    · rw [if_neg h53] at k
      have k := ly_revb 2 (c' := (61, [(0, .ref (p 28)), (1, .int v1), (2, .int v2), (3, .int v3), (4, .int v4)], [.int (Int32.ofInt 4)], me_w M J)) rfl k
      have k := lz_ri rfl (by decide) k
      rw [k, x15_10, if_neg h53]
  | succ c ih =>
    intro v4 hc k
    have k := ly_revb 2 (c' := (13, [(0, .ref (p 28)), (1, .int v1), (2, .int v2), (3, .int v3), (4, .int v4)], [.ref (p 28), .int v4], me_w M J)) rfl k
    have k := lz_get (a := (p 28)) (g := 101) (M := me_w M J) (v := .ref (p 32)) rfl (nt_gfR rfl hv.2.1) k
    have k := lz_get (a := (p 32)) (g := 800) (M := me_w M J) (v := .int (J (p 32) 0)) rfl (congrArg Value.int (rfl)) k
    have k := ly_revb 1 (c' := (if (J (p 32) 0) ≤ v4 then 48 else 22, [(0, .ref (p 28)), (1, .int v1), (2, .int v2), (3, .int v3), (4, .int v4)], [], me_w M J)) rfl k
    by_cases h19 : (J (p 32) 0) ≤ v4
    · rw [if_pos h19] at k
      have k := ly_revb 2 (c' := (50, [(0, .ref (p 28)), (1, .int v1), (2, .int v2), (3, .int v3), (4, .int v4)], [.int v3, .ref (p 28)], me_w M J)) rfl k
      obtain ⟨d1, o1, ed, kc, k⟩ := lz_c (g := 18) (q := 1) (vs := [.ref (p 28), .int v3]) (rest := []) rfl rfl (by decide) (Or.inr (Or.inl ⟨_, rfl, rfl⟩)) rfl k
      have e1 := xt18 hp hn hv kc
      subst e1
      have k : nt_rn X _ 15 (53, [(0, .ref (p 28)), (1, .int v1), (2, .int v2), (3, .int v3), (4, .int v4)], [.int (x18 p v3 J)], me_w M J) _ := k
      have k := ly_revb 1 (c' := (if (x18 p v3 J) = 0 then 60 else 56, [(0, .ref (p 28)), (1, .int v1), (2, .int v2), (3, .int v3), (4, .int v4)], [], me_w M J)) rfl k
      by_cases h53 : (x18 p v3 J) = 0
      · rw [if_pos h53] at k
        have k := ly_revb 1 (c' := (61, [(0, .ref (p 28)), (1, .int v1), (2, .int v2), (3, .int v3), (4, .int v4)], [.int (Int32.ofInt (-1))], me_w M J)) rfl k
        have k := lz_ri rfl (by decide) k
        rw [k, x15_10, if_pos h19, if_pos h53]
      · rw [if_neg h53] at k
        have k := ly_revb 2 (c' := (61, [(0, .ref (p 28)), (1, .int v1), (2, .int v2), (3, .int v3), (4, .int v4)], [.int (Int32.ofInt 4)], me_w M J)) rfl k
        have k := lz_ri rfl (by decide) k
        rw [k, x15_10, if_pos h19, if_neg h53]
    · rw [if_neg h19] at k
      have k := ly_revb 3 (c' := (26, [(0, .ref (p 28)), (1, .int v1), (2, .int v2), (3, .int v3), (4, .int v4)], [.int v4, .int v3, .ref (p 28)], me_w M J)) rfl k
      obtain ⟨d1, o1, ed, kc, k⟩ := lz_c (g := 17) (q := 1) (vs := [.ref (p 28), .int v3, .int v4]) (rest := []) rfl rfl (by decide) (Or.inr (Or.inl ⟨_, rfl, rfl⟩)) rfl k
      have e1 := xt17 hp hn hv kc
      subst e1
      have k : nt_rn X _ 15 (29, [(0, .ref (p 28)), (1, .int v1), (2, .int v2), (3, .int v3), (4, .int v4)], [.int (x17 p v3 v4 J)], me_w M J) _ := k
      have k := ly_revb 1 (c' := (30, [(0, .ref (p 28)), (1, .int v1), (2, .int v2), (3, .int v3), (4, .int v4)], [.ref (p 28), .int (x17 p v3 v4 J)], me_w M J)) rfl k
      have k := lz_get (a := (p 28)) (g := 102) (M := me_w M J) (v := .ref (p 29)) rfl (nt_gfR rfl (hp.1 (28, 2, 29) (by decide))) k
      have k := ly_revb 1 (c' := (35, [(0, .ref (p 28)), (1, .int v1), (2, .int v2), (3, .int v3), (4, .int v4)], [.int v4, .ref (p 29), .int (x17 p v3 v4 J)], me_w M J)) rfl k
      have k := mx_iald (v := J (p 29) v4.toNatClampNeg) rfl (hp.2.2.1 29 (by omega)) (rfl) k
      have k := ly_revb 1 (c' := (if (x17 p v3 v4 J) ≤ (J (p 29) v4.toNatClampNeg) then 42 else 39, [(0, .ref (p 28)), (1, .int v1), (2, .int v2), (3, .int v3), (4, .int v4)], [], me_w M J)) rfl k
      by_cases h36 : (x17 p v3 v4 J) ≤ (J (p 29) v4.toNatClampNeg)
      · rw [if_pos h36] at k
        have k := ly_revb 2 (c' := (10, [(4, .int (v4 + (Int32.ofInt 1))), (0, .ref (p 28)), (1, .int v1), (2, .int v2), (3, .int v3)], [], me_w M J)) rfl k
        have k := nt_rn_w (a := [(4, .int (v4 + (Int32.ofInt 1))), (0, .ref (p 28)), (1, .int v1), (2, .int v2), (3, .int v3)]) (b := [(0, .ref (p 28)), (1, .int v1), (2, .int v2), (3, .int v3), (4, .int (v4 + (Int32.ofInt 1)))]) ⟨rfl, rfl, rfl, rfl, rfl, trivial⟩ rfl k
        have k := ih (v4 + (Int32.ofInt 1)) (lx_dec h19 hc) k
        rw [k, x15_10, if_neg h19, if_pos h36]
      · rw [if_neg h36] at k
        have k := ly_revb 1 (c' := (41, [(0, .ref (p 28)), (1, .int v1), (2, .int v2), (3, .int v3), (4, .int v4)], [.int v4], me_w M J)) rfl k
        have k := lz_ri rfl (by decide) k
        rw [k, x15_10, if_neg h19, if_neg h36]
theorem x15_10_rule {p : Nat → Nat} {v3 : Int32} {J : Nat → Nat → Int32} {I : Nat → Int32 → Prop} {Q : Int32 → Prop} (h0 : ∀ (v4 : Int32), I 0 v4 → Q (if (x18 p v3 J) = 0 then (Int32.ofInt (-1))
    else (Int32.ofInt 4))) (h1 : ∀ (c : Nat) (v4 : Int32), I (c + 1) v4 →
    if (J (p 32) 0) ≤ v4 then if (x18 p v3 J) = 0 then (Q (Int32.ofInt (-1)))
      else (Q (Int32.ofInt 4))
    else if (x17 p v3 v4 J) ≤ (J (p 29) v4.toNatClampNeg) then (I c (v4 + (Int32.ofInt 1)))
      else (Q v4)) : ∀ (c : Nat) (v4 : Int32), I c v4 → Q (x15_10 p v3 J c v4) := by
  intro c
  induction c with
  | zero =>
    intro v4 hi
    rw [x15_10]
    exact h0 v4 hi
  | succ c ih =>
    intro v4 hi
    have hi := h1 c v4 hi
    rw [x15_10]
    by_cases h : (J (p 32) 0) ≤ v4
    · rw [if_pos h] at hi ⊢
      by_cases h : (x18 p v3 J) = 0
      · rw [if_pos h] at hi ⊢
        exact hi
      · rw [if_neg h] at hi ⊢
        exact hi
    · rw [if_neg h] at hi ⊢
      by_cases h : (x17 p v3 v4 J) ≤ (J (p 29) v4.toNatClampNeg)
      · rw [if_pos h] at hi ⊢
        exact ih _ hi
      · rw [if_neg h] at hi ⊢
        exact hi
def x15 (p : Nat → Nat) (v1 : Int32) (v2 : Int32) (J : Nat → Nat → Int32) : Int32 := (x15_10 p (x16 p v1 v2 J) J ((J (p 32) 0).toNatClampNeg) (Int32.ofInt 0))
theorem xt15 {X : nt_X} {d : Nat} {M : nt_M} {o : Option Value × nt_M} {p : Nat → Nat} {v1 : Int32} {v2 : Int32} {J : Nat → Nat → Int32} (hp : xs_P M p) (hn : xs_Q M (fun i => p (31 + i))) (hv : xs_V M p) (k : nt_ev X d 15 [.ref (p 28), .int v1, .int v2] (me_w M J) o) : o = (some (.int (x15 p v1 v2 J)), me_w M J) := by
  have k : nt_rn X d 15 (0, [(0, .ref (p 28)), (1, .int v1), (2, .int v2)], [], me_w M J) o := k
  have k := ly_revb 3 (c' := (3, [(0, .ref (p 28)), (1, .int v1), (2, .int v2)], [.int v2, .int v1, .ref (p 28)], me_w M J)) rfl k
  obtain ⟨d1, o1, ed, kc, k⟩ := lz_c (g := 16) (q := 1) (vs := [.ref (p 28), .int v1, .int v2]) (rest := []) rfl rfl (by decide) (Or.inr (Or.inl ⟨_, rfl, rfl⟩)) rfl k
  have e1 := xt16 hp hn hv kc
  subst e1
  have k : nt_rn X _ 15 (6, [(0, .ref (p 28)), (1, .int v1), (2, .int v2)], [.int (x16 p v1 v2 J)], me_w M J) _ := k
  have k := ly_revb 3 (c' := (10, [(4, .int (Int32.ofInt 0)), (3, .int (x16 p v1 v2 J)), (0, .ref (p 28)), (1, .int v1), (2, .int v2)], [], me_w M J)) rfl k
  have k := nt_rn_w (a := [(4, .int (Int32.ofInt 0)), (3, .int (x16 p v1 v2 J)), (0, .ref (p 28)), (1, .int v1), (2, .int v2)]) (b := [(0, .ref (p 28)), (1, .int v1), (2, .int v2), (3, .int (x16 p v1 v2 J)), (4, .int (Int32.ofInt 0))]) ⟨rfl, rfl, rfl, rfl, rfl, trivial⟩ rfl k
  have k := xt15_10 hp hn hv  ((J (p 32) 0).toNatClampNeg) (Int32.ofInt 0) (lx_beg (by decide)) k
  rw [k, x15]
/-! $Plans.failingDay -/
def x13_4 (p : Nat → Nat) (v1 : Int32) (J : Nat → Nat → Int32) : Nat → Int32 → Int32 → Int32
  | 0, v2, v3 => v2
  | c + 1, v2, v3 => if (J (p 32) 3) ≤ v3 then v2
    else if (x14 v1 v3) = 0 then (x13_4 p v1 J c v2 (v3 + (Int32.ofInt 1)))
      else if v2 = (Int32.ofInt (-1)) then if (x15 p v1 (J (p 38) v3.toNatClampNeg) J) = (Int32.ofInt (-1)) then (x13_4 p v1 J c v2 (v3 + (Int32.ofInt 1)))
          else (x13_4 p v1 J c (J (p 38) v3.toNatClampNeg) (v3 + (Int32.ofInt 1)))
        else if v2 ≤ (J (p 38) v3.toNatClampNeg) then (x13_4 p v1 J c v2 (v3 + (Int32.ofInt 1)))
          else if (x15 p v1 (J (p 38) v3.toNatClampNeg) J) = (Int32.ofInt (-1)) then (x13_4 p v1 J c v2 (v3 + (Int32.ofInt 1)))
            else (x13_4 p v1 J c (J (p 38) v3.toNatClampNeg) (v3 + (Int32.ofInt 1)))
theorem xt13_4 {X : nt_X} {d : Nat} {M : nt_M} {o : Option Value × nt_M} {p : Nat → Nat} {v1 : Int32} {J : Nat → Nat → Int32} (hp : xs_P M p) (hn : xs_Q M (fun i => p (31 + i))) (hv : xs_V M p) : ∀ (c : Nat) (v2 : Int32) (v3 : Int32) (v4 : Int32), (J (p 32) 3).toInt - v3.toInt ≤ c → nt_rn X d 13 (4, [(0, .ref (p 28)), (1, .int v1), (2, .int v2), (3, .int v3), (4, .int v4)], [], me_w M J) o → o = (some (.int (x13_4 p v1 J c v2 v3)), me_w M J) := by
  intro c
  induction c with
  | zero =>
    intro v2 v3 v4 hc k
    have k := ly_revb 2 (c' := (6, [(0, .ref (p 28)), (1, .int v1), (2, .int v2), (3, .int v3), (4, .int v4)], [.ref (p 28), .int v3], me_w M J)) rfl k
    have k := lz_get (a := (p 28)) (g := 101) (M := me_w M J) (v := .ref (p 32)) rfl (nt_gfR rfl hv.2.1) k
    have k := lz_get (a := (p 32)) (g := 803) (M := me_w M J) (v := .int (J (p 32) 3)) rfl (congrArg Value.int (rfl)) k
    have k := ly_revb 1 (c' := (if (J (p 32) 3) ≤ v3 then 65 else 15, [(0, .ref (p 28)), (1, .int v1), (2, .int v2), (3, .int v3), (4, .int v4)], [], me_w M J)) rfl k
    have h12 : (J (p 32) 3) ≤ v3 := lx_end hc
    rw [if_pos h12] at k
    have k := ly_revb 1 (c' := (66, [(0, .ref (p 28)), (1, .int v1), (2, .int v2), (3, .int v3), (4, .int v4)], [.int v2], me_w M J)) rfl k
    have k := lz_ri rfl (by decide) k
    rw [k, x13_4]
  | succ c ih =>
    intro v2 v3 v4 hc k
    have k := ly_revb 2 (c' := (6, [(0, .ref (p 28)), (1, .int v1), (2, .int v2), (3, .int v3), (4, .int v4)], [.ref (p 28), .int v3], me_w M J)) rfl k
    have k := lz_get (a := (p 28)) (g := 101) (M := me_w M J) (v := .ref (p 32)) rfl (nt_gfR rfl hv.2.1) k
    have k := lz_get (a := (p 32)) (g := 803) (M := me_w M J) (v := .int (J (p 32) 3)) rfl (congrArg Value.int (rfl)) k
    have k := ly_revb 1 (c' := (if (J (p 32) 3) ≤ v3 then 65 else 15, [(0, .ref (p 28)), (1, .int v1), (2, .int v2), (3, .int v3), (4, .int v4)], [], me_w M J)) rfl k
    by_cases h12 : (J (p 32) 3) ≤ v3
    · rw [if_pos h12] at k
      have k := ly_revb 1 (c' := (66, [(0, .ref (p 28)), (1, .int v1), (2, .int v2), (3, .int v3), (4, .int v4)], [.int v2], me_w M J)) rfl k
      have k := lz_ri rfl (by decide) k
      rw [k, x13_4, if_pos h12]
    · rw [if_neg h12] at k
      have k := ly_revb 1 (c' := (16, [(0, .ref (p 28)), (1, .int v1), (2, .int v2), (3, .int v3), (4, .int v4)], [.ref (p 28)], me_w M J)) rfl k
      have k := lz_get (a := (p 28)) (g := 101) (M := me_w M J) (v := .ref (p 32)) rfl (nt_gfR rfl hv.2.1) k
      have k := lz_get (a := (p 32)) (g := 810) (M := me_w M J) (v := .ref (p 38)) rfl (nt_gfR rfl (hn.1 (1, 10, 7) (by decide))) k
      have k := ly_revb 1 (c' := (23, [(0, .ref (p 28)), (1, .int v1), (2, .int v2), (3, .int v3), (4, .int v4)], [.int v3, .ref (p 38)], me_w M J)) rfl k
      have k := mx_iald (v := J (p 38) v3.toNatClampNeg) rfl (hp.2.2.1 38 (by omega)) (rfl) k
      have k := ly_revb 3 (c' := (28, [(4, .int (J (p 38) v3.toNatClampNeg)), (0, .ref (p 28)), (1, .int v1), (2, .int v2), (3, .int v3)], [.int v3, .int v1], me_w M J)) rfl k
      obtain ⟨d1, o1, ed, kc, k⟩ := lz_c (g := 14) (q := 0) (vs := [.int v1, .int v3]) (rest := []) rfl rfl (by decide) (Or.inl ⟨_, rfl, rfl⟩) rfl k
      have e1 := xt14  kc
      subst e1
      have k : nt_rn X _ 13 (31, [(4, .int (J (p 38) v3.toNatClampNeg)), (0, .ref (p 28)), (1, .int v1), (2, .int v2), (3, .int v3)], [.int (x14 v1 v3)], me_w M J) _ := k
      have k := ly_revb 1 (c' := (if (x14 v1 v3) = 0 then 59 else 34, [(4, .int (J (p 38) v3.toNatClampNeg)), (0, .ref (p 28)), (1, .int v1), (2, .int v2), (3, .int v3)], [], me_w M J)) rfl k
      by_cases h31 : (x14 v1 v3) = 0
      · rw [if_pos h31] at k
        have k := ly_revb 2 (c' := (4, [(3, .int (v3 + (Int32.ofInt 1))), (4, .int (J (p 38) v3.toNatClampNeg)), (0, .ref (p 28)), (1, .int v1), (2, .int v2)], [], me_w M J)) rfl k
        have k := nt_rn_w (a := [(3, .int (v3 + (Int32.ofInt 1))), (4, .int (J (p 38) v3.toNatClampNeg)), (0, .ref (p 28)), (1, .int v1), (2, .int v2)]) (b := [(0, .ref (p 28)), (1, .int v1), (2, .int v2), (3, .int (v3 + (Int32.ofInt 1))), (4, .int (J (p 38) v3.toNatClampNeg))]) ⟨rfl, rfl, rfl, rfl, rfl, trivial⟩ rfl k
        have k := ih v2 (v3 + (Int32.ofInt 1)) (J (p 38) v3.toNatClampNeg) (lx_dec h12 hc) k
        rw [k, x13_4, if_neg h12, if_pos h31]
      · rw [if_neg h31] at k
        have k := ly_revb 3 (c' := (if v2 = (Int32.ofInt (-1)) then 45 else 39, [(4, .int (J (p 38) v3.toNatClampNeg)), (0, .ref (p 28)), (1, .int v1), (2, .int v2), (3, .int v3)], [], me_w M J)) rfl k
        by_cases h36 : v2 = (Int32.ofInt (-1))
        · rw [if_pos h36] at k
          have k := ly_revb 3 (c' := (49, [(4, .int (J (p 38) v3.toNatClampNeg)), (0, .ref (p 28)), (1, .int v1), (2, .int v2), (3, .int v3)], [.int (J (p 38) v3.toNatClampNeg), .int v1, .ref (p 28)], me_w M J)) rfl k
          obtain ⟨d1, o1, ed, kc, k⟩ := lz_c (g := 15) (q := 1) (vs := [.ref (p 28), .int v1, .int (J (p 38) v3.toNatClampNeg)]) (rest := []) rfl rfl (by decide) (Or.inr (Or.inl ⟨_, rfl, rfl⟩)) rfl k
          have e1 := xt15 hp hn hv kc
          subst e1
          have k : nt_rn X _ 13 (52, [(4, .int (J (p 38) v3.toNatClampNeg)), (0, .ref (p 28)), (1, .int v1), (2, .int v2), (3, .int v3)], [.int (x15 p v1 (J (p 38) v3.toNatClampNeg) J)], me_w M J) _ := k
          have k := ly_revb 2 (c' := (if (x15 p v1 (J (p 38) v3.toNatClampNeg) J) = (Int32.ofInt (-1)) then 59 else 56, [(4, .int (J (p 38) v3.toNatClampNeg)), (0, .ref (p 28)), (1, .int v1), (2, .int v2), (3, .int v3)], [], me_w M J)) rfl k
          by_cases h53 : (x15 p v1 (J (p 38) v3.toNatClampNeg) J) = (Int32.ofInt (-1))
          · rw [if_pos h53] at k
            have k := ly_revb 2 (c' := (4, [(3, .int (v3 + (Int32.ofInt 1))), (4, .int (J (p 38) v3.toNatClampNeg)), (0, .ref (p 28)), (1, .int v1), (2, .int v2)], [], me_w M J)) rfl k
            have k := nt_rn_w (a := [(3, .int (v3 + (Int32.ofInt 1))), (4, .int (J (p 38) v3.toNatClampNeg)), (0, .ref (p 28)), (1, .int v1), (2, .int v2)]) (b := [(0, .ref (p 28)), (1, .int v1), (2, .int v2), (3, .int (v3 + (Int32.ofInt 1))), (4, .int (J (p 38) v3.toNatClampNeg))]) ⟨rfl, rfl, rfl, rfl, rfl, trivial⟩ rfl k
            have k := ih v2 (v3 + (Int32.ofInt 1)) (J (p 38) v3.toNatClampNeg) (lx_dec h12 hc) k
            rw [k, x13_4, if_neg h12, if_neg h31, if_pos h36, if_pos h53]
          · rw [if_neg h53] at k
            have k := ly_revb 4 (c' := (4, [(3, .int (v3 + (Int32.ofInt 1))), (2, .int (J (p 38) v3.toNatClampNeg)), (4, .int (J (p 38) v3.toNatClampNeg)), (0, .ref (p 28)), (1, .int v1)], [], me_w M J)) rfl k
            have k := nt_rn_w (a := [(3, .int (v3 + (Int32.ofInt 1))), (2, .int (J (p 38) v3.toNatClampNeg)), (4, .int (J (p 38) v3.toNatClampNeg)), (0, .ref (p 28)), (1, .int v1)]) (b := [(0, .ref (p 28)), (1, .int v1), (2, .int (J (p 38) v3.toNatClampNeg)), (3, .int (v3 + (Int32.ofInt 1))), (4, .int (J (p 38) v3.toNatClampNeg))]) ⟨rfl, rfl, rfl, rfl, rfl, trivial⟩ rfl k
            have k := ih (J (p 38) v3.toNatClampNeg) (v3 + (Int32.ofInt 1)) (J (p 38) v3.toNatClampNeg) (lx_dec h12 hc) k
            rw [k, x13_4, if_neg h12, if_neg h31, if_pos h36, if_neg h53]
        · rw [if_neg h36] at k
          have k := ly_revb 3 (c' := (if v2 ≤ (J (p 38) v3.toNatClampNeg) then 59 else 45, [(4, .int (J (p 38) v3.toNatClampNeg)), (0, .ref (p 28)), (1, .int v1), (2, .int v2), (3, .int v3)], [], me_w M J)) rfl k
          by_cases h42 : v2 ≤ (J (p 38) v3.toNatClampNeg)
          · rw [if_pos h42] at k
            have k := ly_revb 2 (c' := (4, [(3, .int (v3 + (Int32.ofInt 1))), (4, .int (J (p 38) v3.toNatClampNeg)), (0, .ref (p 28)), (1, .int v1), (2, .int v2)], [], me_w M J)) rfl k
            have k := nt_rn_w (a := [(3, .int (v3 + (Int32.ofInt 1))), (4, .int (J (p 38) v3.toNatClampNeg)), (0, .ref (p 28)), (1, .int v1), (2, .int v2)]) (b := [(0, .ref (p 28)), (1, .int v1), (2, .int v2), (3, .int (v3 + (Int32.ofInt 1))), (4, .int (J (p 38) v3.toNatClampNeg))]) ⟨rfl, rfl, rfl, rfl, rfl, trivial⟩ rfl k
            have k := ih v2 (v3 + (Int32.ofInt 1)) (J (p 38) v3.toNatClampNeg) (lx_dec h12 hc) k
            rw [k, x13_4, if_neg h12, if_neg h31, if_neg h36, if_pos h42]
          · rw [if_neg h42] at k
            have k := ly_revb 3 (c' := (49, [(4, .int (J (p 38) v3.toNatClampNeg)), (0, .ref (p 28)), (1, .int v1), (2, .int v2), (3, .int v3)], [.int (J (p 38) v3.toNatClampNeg), .int v1, .ref (p 28)], me_w M J)) rfl k
            obtain ⟨d1, o1, ed, kc, k⟩ := lz_c (g := 15) (q := 1) (vs := [.ref (p 28), .int v1, .int (J (p 38) v3.toNatClampNeg)]) (rest := []) rfl rfl (by decide) (Or.inr (Or.inl ⟨_, rfl, rfl⟩)) rfl k
            have e1 := xt15 hp hn hv kc
            subst e1
            have k : nt_rn X _ 13 (52, [(4, .int (J (p 38) v3.toNatClampNeg)), (0, .ref (p 28)), (1, .int v1), (2, .int v2), (3, .int v3)], [.int (x15 p v1 (J (p 38) v3.toNatClampNeg) J)], me_w M J) _ := k
            have k := ly_revb 2 (c' := (if (x15 p v1 (J (p 38) v3.toNatClampNeg) J) = (Int32.ofInt (-1)) then 59 else 56, [(4, .int (J (p 38) v3.toNatClampNeg)), (0, .ref (p 28)), (1, .int v1), (2, .int v2), (3, .int v3)], [], me_w M J)) rfl k
            by_cases h53 : (x15 p v1 (J (p 38) v3.toNatClampNeg) J) = (Int32.ofInt (-1))
            · rw [if_pos h53] at k
              have k := ly_revb 2 (c' := (4, [(3, .int (v3 + (Int32.ofInt 1))), (4, .int (J (p 38) v3.toNatClampNeg)), (0, .ref (p 28)), (1, .int v1), (2, .int v2)], [], me_w M J)) rfl k
              have k := nt_rn_w (a := [(3, .int (v3 + (Int32.ofInt 1))), (4, .int (J (p 38) v3.toNatClampNeg)), (0, .ref (p 28)), (1, .int v1), (2, .int v2)]) (b := [(0, .ref (p 28)), (1, .int v1), (2, .int v2), (3, .int (v3 + (Int32.ofInt 1))), (4, .int (J (p 38) v3.toNatClampNeg))]) ⟨rfl, rfl, rfl, rfl, rfl, trivial⟩ rfl k
              have k := ih v2 (v3 + (Int32.ofInt 1)) (J (p 38) v3.toNatClampNeg) (lx_dec h12 hc) k
              rw [k, x13_4, if_neg h12, if_neg h31, if_neg h36, if_neg h42, if_pos h53]
            · rw [if_neg h53] at k
              have k := ly_revb 4 (c' := (4, [(3, .int (v3 + (Int32.ofInt 1))), (2, .int (J (p 38) v3.toNatClampNeg)), (4, .int (J (p 38) v3.toNatClampNeg)), (0, .ref (p 28)), (1, .int v1)], [], me_w M J)) rfl k
              have k := nt_rn_w (a := [(3, .int (v3 + (Int32.ofInt 1))), (2, .int (J (p 38) v3.toNatClampNeg)), (4, .int (J (p 38) v3.toNatClampNeg)), (0, .ref (p 28)), (1, .int v1)]) (b := [(0, .ref (p 28)), (1, .int v1), (2, .int (J (p 38) v3.toNatClampNeg)), (3, .int (v3 + (Int32.ofInt 1))), (4, .int (J (p 38) v3.toNatClampNeg))]) ⟨rfl, rfl, rfl, rfl, rfl, trivial⟩ rfl k
              have k := ih (J (p 38) v3.toNatClampNeg) (v3 + (Int32.ofInt 1)) (J (p 38) v3.toNatClampNeg) (lx_dec h12 hc) k
              rw [k, x13_4, if_neg h12, if_neg h31, if_neg h36, if_neg h42, if_neg h53]
theorem x13_4_rule {p : Nat → Nat} {v1 : Int32} {J : Nat → Nat → Int32} {I : Nat → Int32 → Int32 → Prop} {Q : Int32 → Prop} (h0 : ∀ (v2 : Int32) (v3 : Int32), I 0 v2 v3 → Q v2) (h1 : ∀ (c : Nat) (v2 : Int32) (v3 : Int32), I (c + 1) v2 v3 →
    if (J (p 32) 3) ≤ v3 then (Q v2)
    else if (x14 v1 v3) = 0 then (I c v2 (v3 + (Int32.ofInt 1)))
      else if v2 = (Int32.ofInt (-1)) then if (x15 p v1 (J (p 38) v3.toNatClampNeg) J) = (Int32.ofInt (-1)) then (I c v2 (v3 + (Int32.ofInt 1)))
          else (I c (J (p 38) v3.toNatClampNeg) (v3 + (Int32.ofInt 1)))
        else if v2 ≤ (J (p 38) v3.toNatClampNeg) then (I c v2 (v3 + (Int32.ofInt 1)))
          else if (x15 p v1 (J (p 38) v3.toNatClampNeg) J) = (Int32.ofInt (-1)) then (I c v2 (v3 + (Int32.ofInt 1)))
            else (I c (J (p 38) v3.toNatClampNeg) (v3 + (Int32.ofInt 1)))) : ∀ (c : Nat) (v2 : Int32) (v3 : Int32), I c v2 v3 → Q (x13_4 p v1 J c v2 v3) := by
  intro c
  induction c with
  | zero =>
    intro v2 v3 hi
    rw [x13_4]
    exact h0 v2 v3 hi
  | succ c ih =>
    intro v2 v3 hi
    have hi := h1 c v2 v3 hi
    rw [x13_4]
    by_cases h : (J (p 32) 3) ≤ v3
    · rw [if_pos h] at hi ⊢
      exact hi
    · rw [if_neg h] at hi ⊢
      by_cases h : (x14 v1 v3) = 0
      · rw [if_pos h] at hi ⊢
        exact ih _ _ hi
      · rw [if_neg h] at hi ⊢
        by_cases h : v2 = (Int32.ofInt (-1))
        · rw [if_pos h] at hi ⊢
          by_cases h : (x15 p v1 (J (p 38) v3.toNatClampNeg) J) = (Int32.ofInt (-1))
          · rw [if_pos h] at hi ⊢
            exact ih _ _ hi
          · rw [if_neg h] at hi ⊢
            exact ih _ _ hi
        · rw [if_neg h] at hi ⊢
          by_cases h : v2 ≤ (J (p 38) v3.toNatClampNeg)
          · rw [if_pos h] at hi ⊢
            exact ih _ _ hi
          · rw [if_neg h] at hi ⊢
            by_cases h : (x15 p v1 (J (p 38) v3.toNatClampNeg) J) = (Int32.ofInt (-1))
            · rw [if_pos h] at hi ⊢
              exact ih _ _ hi
            · rw [if_neg h] at hi ⊢
              exact ih _ _ hi
def x13 (p : Nat → Nat) (v1 : Int32) (J : Nat → Nat → Int32) : Int32 := (x13_4 p v1 J ((J (p 32) 3).toNatClampNeg) (Int32.ofInt (-1)) (Int32.ofInt 0))
theorem xt13 {X : nt_X} {d : Nat} {M : nt_M} {o : Option Value × nt_M} {p : Nat → Nat} {v1 : Int32} {J : Nat → Nat → Int32} (hp : xs_P M p) (hn : xs_Q M (fun i => p (31 + i))) (hv : xs_V M p) (k : nt_ev X d 13 [.ref (p 28), .int v1] (me_w M J) o) : o = (some (.int (x13 p v1 J)), me_w M J) := by
  have k : nt_rn X d 13 (0, [(0, .ref (p 28)), (1, .int v1)], [], me_w M J) o := k
  have k := ly_revb 4 (c' := (4, [(3, .int (Int32.ofInt 0)), (2, .int (Int32.ofInt (-1))), (0, .ref (p 28)), (1, .int v1)], [], me_w M J)) rfl k
  have k := nt_rn_w (a := [(3, .int (Int32.ofInt 0)), (2, .int (Int32.ofInt (-1))), (0, .ref (p 28)), (1, .int v1)]) (b := [(0, .ref (p 28)), (1, .int v1), (2, .int (Int32.ofInt (-1))), (3, .int (Int32.ofInt 0)), (4, .int (Int32.ofInt 0))]) ⟨rfl, rfl, rfl, rfl, trivial⟩ rfl k
  have k := xt13_4 hp hn hv  ((J (p 32) 3).toNatClampNeg) (Int32.ofInt (-1)) (Int32.ofInt 0) (Int32.ofInt 0) (lx_beg (by decide)) k
  rw [k, x13]
/-! $Plans.bestVoyages -/
def x19_6 (p : Nat → Nat) (J : Nat → Nat → Int32) : Nat → Int32 → Int32 → Int32 → Int32
  | 0, v1, v2, v3 => v1
  | c + 1, v1, v2, v3 => if ((Int32.ofInt 1) <<< ((J (p 32) 3) &&& 31)) ≤ v3 then v1
    else if (x21 (x20 p v3 J) v3 v2 v1) = 0 then (x19_6 p J c v1 v2 (v3 + (Int32.ofInt 1)))
      else if (x13 p v3 J) = (Int32.ofInt (-1)) then (x19_6 p J c v3 (x20 p v3 J) (v3 + (Int32.ofInt 1)))
        else (x19_6 p J c v1 v2 (v3 + (Int32.ofInt 1)))
theorem xt19_6 {X : nt_X} {d : Nat} {M : nt_M} {o : Option Value × nt_M} {p : Nat → Nat} {J : Nat → Nat → Int32} (hp : xs_P M p) (hn : xs_Q M (fun i => p (31 + i))) (hv : xs_V M p) : ∀ (c : Nat) (v1 : Int32) (v2 : Int32) (v3 : Int32) (v4 : Int32), ((Int32.ofInt 1) <<< ((J (p 32) 3) &&& 31)).toInt - v3.toInt ≤ c → nt_rn X d 19 (6, [(0, .ref (p 28)), (1, .int v1), (2, .int v2), (3, .int v3), (4, .int v4)], [], me_w M J) o → o = (some (.int (x19_6 p J c v1 v2 v3)), me_w M J) := by
  intro c
  induction c with
  | zero =>
    intro v1 v2 v3 v4 hc k
    have k := ly_revb 3 (c' := (9, [(0, .ref (p 28)), (1, .int v1), (2, .int v2), (3, .int v3), (4, .int v4)], [.ref (p 28), .int (Int32.ofInt 1), .int v3], me_w M J)) rfl k
    have k := lz_get (a := (p 28)) (g := 101) (M := me_w M J) (v := .ref (p 32)) rfl (nt_gfR rfl hv.2.1) k
    have k := lz_get (a := (p 32)) (g := 803) (M := me_w M J) (v := .int (J (p 32) 3)) rfl (congrArg Value.int (rfl)) k
    have k := ly_revb 2 (c' := (if ((Int32.ofInt 1) <<< ((J (p 32) 3) &&& 31)) ≤ v3 then 57 else 19, [(0, .ref (p 28)), (1, .int v1), (2, .int v2), (3, .int v3), (4, .int v4)], [], me_w M J)) rfl k
    have h16 : ((Int32.ofInt 1) <<< ((J (p 32) 3) &&& 31)) ≤ v3 := lx_end hc
    rw [if_pos h16] at k
    have k := ly_revb 1 (c' := (58, [(0, .ref (p 28)), (1, .int v1), (2, .int v2), (3, .int v3), (4, .int v4)], [.int v1], me_w M J)) rfl k
    have k := lz_ri rfl (by decide) k
    rw [k, x19_6]
  | succ c ih =>
    intro v1 v2 v3 v4 hc k
    have k := ly_revb 3 (c' := (9, [(0, .ref (p 28)), (1, .int v1), (2, .int v2), (3, .int v3), (4, .int v4)], [.ref (p 28), .int (Int32.ofInt 1), .int v3], me_w M J)) rfl k
    have k := lz_get (a := (p 28)) (g := 101) (M := me_w M J) (v := .ref (p 32)) rfl (nt_gfR rfl hv.2.1) k
    have k := lz_get (a := (p 32)) (g := 803) (M := me_w M J) (v := .int (J (p 32) 3)) rfl (congrArg Value.int (rfl)) k
    have k := ly_revb 2 (c' := (if ((Int32.ofInt 1) <<< ((J (p 32) 3) &&& 31)) ≤ v3 then 57 else 19, [(0, .ref (p 28)), (1, .int v1), (2, .int v2), (3, .int v3), (4, .int v4)], [], me_w M J)) rfl k
    by_cases h16 : ((Int32.ofInt 1) <<< ((J (p 32) 3) &&& 31)) ≤ v3
    · rw [if_pos h16] at k
      have k := ly_revb 1 (c' := (58, [(0, .ref (p 28)), (1, .int v1), (2, .int v2), (3, .int v3), (4, .int v4)], [.int v1], me_w M J)) rfl k
      have k := lz_ri rfl (by decide) k
      rw [k, x19_6, if_pos h16]
    · rw [if_neg h16] at k
      have k := ly_revb 2 (c' := (21, [(0, .ref (p 28)), (1, .int v1), (2, .int v2), (3, .int v3), (4, .int v4)], [.int v3, .ref (p 28)], me_w M J)) rfl k
      obtain ⟨d1, o1, ed, kc, k⟩ := lz_c (g := 20) (q := 1) (vs := [.ref (p 28), .int v3]) (rest := []) rfl rfl (by decide) (Or.inr (Or.inl ⟨_, rfl, rfl⟩)) rfl k
      have e1 := xt20 hp hn hv kc
      subst e1
      have k : nt_rn X _ 19 (24, [(0, .ref (p 28)), (1, .int v1), (2, .int v2), (3, .int v3), (4, .int v4)], [.int (x20 p v3 J)], me_w M J) _ := k
      have k := ly_revb 5 (c' := (31, [(4, .int (x20 p v3 J)), (0, .ref (p 28)), (1, .int v1), (2, .int v2), (3, .int v3)], [.int v1, .int v2, .int v3, .int (x20 p v3 J)], me_w M J)) rfl k
      obtain ⟨d1, o1, ed, kc, k⟩ := lz_c (g := 21) (q := 0) (vs := [.int (x20 p v3 J), .int v3, .int v2, .int v1]) (rest := []) rfl rfl (by decide) (Or.inl ⟨_, rfl, rfl⟩) rfl k
      have e1 := xt21  kc
      subst e1
      have k : nt_rn X _ 19 (34, [(4, .int (x20 p v3 J)), (0, .ref (p 28)), (1, .int v1), (2, .int v2), (3, .int v3)], [.int (x21 (x20 p v3 J) v3 v2 v1)], me_w M J) _ := k
      have k := ly_revb 1 (c' := (if (x21 (x20 p v3 J) v3 v2 v1) = 0 then 51 else 37, [(4, .int (x20 p v3 J)), (0, .ref (p 28)), (1, .int v1), (2, .int v2), (3, .int v3)], [], me_w M J)) rfl k
      by_cases h34 : (x21 (x20 p v3 J) v3 v2 v1) = 0
      · rw [if_pos h34] at k
        have k := ly_revb 2 (c' := (6, [(3, .int (v3 + (Int32.ofInt 1))), (4, .int (x20 p v3 J)), (0, .ref (p 28)), (1, .int v1), (2, .int v2)], [], me_w M J)) rfl k
        have k := nt_rn_w (a := [(3, .int (v3 + (Int32.ofInt 1))), (4, .int (x20 p v3 J)), (0, .ref (p 28)), (1, .int v1), (2, .int v2)]) (b := [(0, .ref (p 28)), (1, .int v1), (2, .int v2), (3, .int (v3 + (Int32.ofInt 1))), (4, .int (x20 p v3 J))]) ⟨rfl, rfl, rfl, rfl, rfl, trivial⟩ rfl k
        have k := ih v1 v2 (v3 + (Int32.ofInt 1)) (x20 p v3 J) (lx_dec h16 hc) k
        rw [k, x19_6, if_neg h16, if_pos h34]
      · rw [if_neg h34] at k
        have k := ly_revb 2 (c' := (39, [(4, .int (x20 p v3 J)), (0, .ref (p 28)), (1, .int v1), (2, .int v2), (3, .int v3)], [.int v3, .ref (p 28)], me_w M J)) rfl k
        obtain ⟨d1, o1, ed, kc, k⟩ := lz_c (g := 13) (q := 1) (vs := [.ref (p 28), .int v3]) (rest := []) rfl rfl (by decide) (Or.inr (Or.inl ⟨_, rfl, rfl⟩)) rfl k
        have e1 := xt13 hp hn hv kc
        subst e1
        have k : nt_rn X _ 19 (42, [(4, .int (x20 p v3 J)), (0, .ref (p 28)), (1, .int v1), (2, .int v2), (3, .int v3)], [.int (x13 p v3 J)], me_w M J) _ := k
        have k := ly_revb 2 (c' := (if (x13 p v3 J) = (Int32.ofInt (-1)) then 46 else 51, [(4, .int (x20 p v3 J)), (0, .ref (p 28)), (1, .int v1), (2, .int v2), (3, .int v3)], [], me_w M J)) rfl k
        by_cases h43 : (x13 p v3 J) = (Int32.ofInt (-1))
        · rw [if_pos h43] at k
          have k := ly_revb 6 (c' := (6, [(3, .int (v3 + (Int32.ofInt 1))), (2, .int (x20 p v3 J)), (1, .int v3), (4, .int (x20 p v3 J)), (0, .ref (p 28))], [], me_w M J)) rfl k
          have k := nt_rn_w (a := [(3, .int (v3 + (Int32.ofInt 1))), (2, .int (x20 p v3 J)), (1, .int v3), (4, .int (x20 p v3 J)), (0, .ref (p 28))]) (b := [(0, .ref (p 28)), (1, .int v3), (2, .int (x20 p v3 J)), (3, .int (v3 + (Int32.ofInt 1))), (4, .int (x20 p v3 J))]) ⟨rfl, rfl, rfl, rfl, rfl, trivial⟩ rfl k
          have k := ih v3 (x20 p v3 J) (v3 + (Int32.ofInt 1)) (x20 p v3 J) (lx_dec h16 hc) k
          rw [k, x19_6, if_neg h16, if_neg h34, if_pos h43]
        · rw [if_neg h43] at k
          have k := ly_revb 2 (c' := (6, [(3, .int (v3 + (Int32.ofInt 1))), (4, .int (x20 p v3 J)), (0, .ref (p 28)), (1, .int v1), (2, .int v2)], [], me_w M J)) rfl k
          have k := nt_rn_w (a := [(3, .int (v3 + (Int32.ofInt 1))), (4, .int (x20 p v3 J)), (0, .ref (p 28)), (1, .int v1), (2, .int v2)]) (b := [(0, .ref (p 28)), (1, .int v1), (2, .int v2), (3, .int (v3 + (Int32.ofInt 1))), (4, .int (x20 p v3 J))]) ⟨rfl, rfl, rfl, rfl, rfl, trivial⟩ rfl k
          have k := ih v1 v2 (v3 + (Int32.ofInt 1)) (x20 p v3 J) (lx_dec h16 hc) k
          rw [k, x19_6, if_neg h16, if_neg h34, if_neg h43]
theorem x19_6_rule {p : Nat → Nat} {J : Nat → Nat → Int32} {I : Nat → Int32 → Int32 → Int32 → Prop} {Q : Int32 → Prop} (h0 : ∀ (v1 : Int32) (v2 : Int32) (v3 : Int32), I 0 v1 v2 v3 → Q v1) (h1 : ∀ (c : Nat) (v1 : Int32) (v2 : Int32) (v3 : Int32), I (c + 1) v1 v2 v3 →
    if ((Int32.ofInt 1) <<< ((J (p 32) 3) &&& 31)) ≤ v3 then (Q v1)
    else if (x21 (x20 p v3 J) v3 v2 v1) = 0 then (I c v1 v2 (v3 + (Int32.ofInt 1)))
      else if (x13 p v3 J) = (Int32.ofInt (-1)) then (I c v3 (x20 p v3 J) (v3 + (Int32.ofInt 1)))
        else (I c v1 v2 (v3 + (Int32.ofInt 1)))) : ∀ (c : Nat) (v1 : Int32) (v2 : Int32) (v3 : Int32), I c v1 v2 v3 → Q (x19_6 p J c v1 v2 v3) := by
  intro c
  induction c with
  | zero =>
    intro v1 v2 v3 hi
    rw [x19_6]
    exact h0 v1 v2 v3 hi
  | succ c ih =>
    intro v1 v2 v3 hi
    have hi := h1 c v1 v2 v3 hi
    rw [x19_6]
    by_cases h : ((Int32.ofInt 1) <<< ((J (p 32) 3) &&& 31)) ≤ v3
    · rw [if_pos h] at hi ⊢
      exact hi
    · rw [if_neg h] at hi ⊢
      by_cases h : (x21 (x20 p v3 J) v3 v2 v1) = 0
      · rw [if_pos h] at hi ⊢
        exact ih _ _ _ hi
      · rw [if_neg h] at hi ⊢
        by_cases h : (x13 p v3 J) = (Int32.ofInt (-1))
        · rw [if_pos h] at hi ⊢
          exact ih _ _ _ hi
        · rw [if_neg h] at hi ⊢
          exact ih _ _ _ hi
def x19 (p : Nat → Nat) (J : Nat → Nat → Int32) : Int32 := (x19_6 p J (((Int32.ofInt 1) <<< ((J (p 32) 3) &&& 31)).toNatClampNeg) (Int32.ofInt 0) (Int32.ofInt 0) (Int32.ofInt 1))
theorem xt19 {X : nt_X} {d : Nat} {M : nt_M} {o : Option Value × nt_M} {p : Nat → Nat} {J : Nat → Nat → Int32} (hp : xs_P M p) (hn : xs_Q M (fun i => p (31 + i))) (hv : xs_V M p) (k : nt_ev X d 19 [.ref (p 28)] (me_w M J) o) : o = (some (.int (x19 p J)), me_w M J) := by
  have k : nt_rn X d 19 (0, [(0, .ref (p 28))], [], me_w M J) o := k
  have k := ly_revb 6 (c' := (6, [(3, .int (Int32.ofInt 1)), (2, .int (Int32.ofInt 0)), (1, .int (Int32.ofInt 0)), (0, .ref (p 28))], [], me_w M J)) rfl k
  have k := nt_rn_w (a := [(3, .int (Int32.ofInt 1)), (2, .int (Int32.ofInt 0)), (1, .int (Int32.ofInt 0)), (0, .ref (p 28))]) (b := [(0, .ref (p 28)), (1, .int (Int32.ofInt 0)), (2, .int (Int32.ofInt 0)), (3, .int (Int32.ofInt 1)), (4, .int (Int32.ofInt 0))]) ⟨rfl, rfl, rfl, rfl, trivial⟩ rfl k
  have k := xt19_6 hp hn hv  (((Int32.ofInt 1) <<< ((J (p 32) 3) &&& 31)).toNatClampNeg) (Int32.ofInt 0) (Int32.ofInt 0) (Int32.ofInt 1) (Int32.ofInt 0) (lx_beg (by decide)) k
  rw [k, x19]
/-! $Plans.payOfShips -/
def x25_4 (p : Nat → Nat) (v1 : Int32) (J : Nat → Nat → Int32) : Nat → Int32 → Int32 → Int32
  | 0, v2, v3 => v2
  | c + 1, v2, v3 => if (J (p 32) 3) ≤ v3 then v2
    else if (x14 v1 (J (p 37) v3.toNatClampNeg)) = 0 then (x25_4 p v1 J c v2 (v3 + (Int32.ofInt 1)))
      else if (J (p 38) v3.toNatClampNeg) < (J (p 31) 2) then (x25_4 p v1 J c v2 (v3 + (Int32.ofInt 1)))
        else (x25_4 p v1 J c (v2 + (J (p 40) v3.toNatClampNeg)) (v3 + (Int32.ofInt 1)))
theorem xt25_4 {X : nt_X} {d : Nat} {M : nt_M} {o : Option Value × nt_M} {p : Nat → Nat} {v1 : Int32} {J : Nat → Nat → Int32} (hp : xs_P M p) (hn : xs_Q M (fun i => p (31 + i))) (hv : xs_V M p) : ∀ (c : Nat) (v2 : Int32) (v3 : Int32), (J (p 32) 3).toInt - v3.toInt ≤ c → nt_rn X d 25 (4, [(0, .ref (p 28)), (1, .int v1), (2, .int v2), (3, .int v3)], [], me_w M J) o → o = (some (.int (x25_4 p v1 J c v2 v3)), me_w M J) := by
  intro c
  induction c with
  | zero =>
    intro v2 v3 hc k
    have k := ly_revb 2 (c' := (6, [(0, .ref (p 28)), (1, .int v1), (2, .int v2), (3, .int v3)], [.ref (p 28), .int v3], me_w M J)) rfl k
    have k := lz_get (a := (p 28)) (g := 101) (M := me_w M J) (v := .ref (p 32)) rfl (nt_gfR rfl hv.2.1) k
    have k := lz_get (a := (p 32)) (g := 803) (M := me_w M J) (v := .int (J (p 32) 3)) rfl (congrArg Value.int (rfl)) k
    have k := ly_revb 1 (c' := (if (J (p 32) 3) ≤ v3 then 68 else 15, [(0, .ref (p 28)), (1, .int v1), (2, .int v2), (3, .int v3)], [], me_w M J)) rfl k
    have h12 : (J (p 32) 3) ≤ v3 := lx_end hc
    rw [if_pos h12] at k
    have k := ly_revb 1 (c' := (69, [(0, .ref (p 28)), (1, .int v1), (2, .int v2), (3, .int v3)], [.int v2], me_w M J)) rfl k
    have k := lz_ri rfl (by decide) k
    rw [k, x25_4]
  | succ c ih =>
    intro v2 v3 hc k
    have k := ly_revb 2 (c' := (6, [(0, .ref (p 28)), (1, .int v1), (2, .int v2), (3, .int v3)], [.ref (p 28), .int v3], me_w M J)) rfl k
    have k := lz_get (a := (p 28)) (g := 101) (M := me_w M J) (v := .ref (p 32)) rfl (nt_gfR rfl hv.2.1) k
    have k := lz_get (a := (p 32)) (g := 803) (M := me_w M J) (v := .int (J (p 32) 3)) rfl (congrArg Value.int (rfl)) k
    have k := ly_revb 1 (c' := (if (J (p 32) 3) ≤ v3 then 68 else 15, [(0, .ref (p 28)), (1, .int v1), (2, .int v2), (3, .int v3)], [], me_w M J)) rfl k
    by_cases h12 : (J (p 32) 3) ≤ v3
    · rw [if_pos h12] at k
      have k := ly_revb 1 (c' := (69, [(0, .ref (p 28)), (1, .int v1), (2, .int v2), (3, .int v3)], [.int v2], me_w M J)) rfl k
      have k := lz_ri rfl (by decide) k
      rw [k, x25_4, if_pos h12]
    · rw [if_neg h12] at k
      have k := ly_revb 2 (c' := (17, [(0, .ref (p 28)), (1, .int v1), (2, .int v2), (3, .int v3)], [.ref (p 28), .int v1], me_w M J)) rfl k
      have k := lz_get (a := (p 28)) (g := 101) (M := me_w M J) (v := .ref (p 32)) rfl (nt_gfR rfl hv.2.1) k
      have k := lz_get (a := (p 32)) (g := 809) (M := me_w M J) (v := .ref (p 37)) rfl (nt_gfR rfl (hn.1 (1, 9, 6) (by decide))) k
      have k := ly_revb 1 (c' := (24, [(0, .ref (p 28)), (1, .int v1), (2, .int v2), (3, .int v3)], [.int v3, .ref (p 37), .int v1], me_w M J)) rfl k
      have k := mx_iald (v := J (p 37) v3.toNatClampNeg) rfl (hp.2.2.1 37 (by omega)) (rfl) k
      obtain ⟨d1, o1, ed, kc, k⟩ := lz_c (g := 14) (q := 0) (vs := [.int v1, .int (J (p 37) v3.toNatClampNeg)]) (rest := []) rfl rfl (by decide) (Or.inl ⟨_, rfl, rfl⟩) rfl k
      have e1 := xt14  kc
      subst e1
      have k : nt_rn X _ 25 (28, [(0, .ref (p 28)), (1, .int v1), (2, .int v2), (3, .int v3)], [.int (x14 v1 (J (p 37) v3.toNatClampNeg))], me_w M J) _ := k
      have k := ly_revb 1 (c' := (if (x14 v1 (J (p 37) v3.toNatClampNeg)) = 0 then 62 else 31, [(0, .ref (p 28)), (1, .int v1), (2, .int v2), (3, .int v3)], [], me_w M J)) rfl k
      by_cases h28 : (x14 v1 (J (p 37) v3.toNatClampNeg)) = 0
      · rw [if_pos h28] at k
        have k := ly_revb 2 (c' := (4, [(3, .int (v3 + (Int32.ofInt 1))), (0, .ref (p 28)), (1, .int v1), (2, .int v2)], [], me_w M J)) rfl k
        have k := nt_rn_w (a := [(3, .int (v3 + (Int32.ofInt 1))), (0, .ref (p 28)), (1, .int v1), (2, .int v2)]) (b := [(0, .ref (p 28)), (1, .int v1), (2, .int v2), (3, .int (v3 + (Int32.ofInt 1)))]) ⟨rfl, rfl, rfl, rfl, trivial⟩ rfl k
        have k := ih v2 (v3 + (Int32.ofInt 1)) (lx_dec h12 hc) k
        rw [k, x25_4, if_neg h12, if_pos h28]
      · rw [if_neg h28] at k
        have k := ly_revb 1 (c' := (32, [(0, .ref (p 28)), (1, .int v1), (2, .int v2), (3, .int v3)], [.ref (p 28)], me_w M J)) rfl k
        have k := lz_get (a := (p 28)) (g := 101) (M := me_w M J) (v := .ref (p 32)) rfl (nt_gfR rfl hv.2.1) k
        have k := lz_get (a := (p 32)) (g := 810) (M := me_w M J) (v := .ref (p 38)) rfl (nt_gfR rfl (hn.1 (1, 10, 7) (by decide))) k
        have k := ly_revb 1 (c' := (39, [(0, .ref (p 28)), (1, .int v1), (2, .int v2), (3, .int v3)], [.int v3, .ref (p 38)], me_w M J)) rfl k
        have k := mx_iald (v := J (p 38) v3.toNatClampNeg) rfl (hp.2.2.1 38 (by omega)) (rfl) k
        have k := ly_revb 1 (c' := (41, [(0, .ref (p 28)), (1, .int v1), (2, .int v2), (3, .int v3)], [.ref (p 28), .int (J (p 38) v3.toNatClampNeg)], me_w M J)) rfl k
        have k := lz_get (a := (p 28)) (g := 100) (M := me_w M J) (v := .ref (p 31)) rfl (nt_gfR rfl hv.1) k
        have k := lz_get (a := (p 31)) (g := 602) (M := me_w M J) (v := .int (J (p 31) 2)) rfl (congrArg Value.int (rfl)) k
        have k := ly_revb 1 (c' := (if (J (p 38) v3.toNatClampNeg) < (J (p 31) 2) then 62 else 50, [(0, .ref (p 28)), (1, .int v1), (2, .int v2), (3, .int v3)], [], me_w M J)) rfl k
        by_cases h47 : (J (p 38) v3.toNatClampNeg) < (J (p 31) 2)
        · rw [if_pos h47] at k
          have k := ly_revb 2 (c' := (4, [(3, .int (v3 + (Int32.ofInt 1))), (0, .ref (p 28)), (1, .int v1), (2, .int v2)], [], me_w M J)) rfl k
          have k := nt_rn_w (a := [(3, .int (v3 + (Int32.ofInt 1))), (0, .ref (p 28)), (1, .int v1), (2, .int v2)]) (b := [(0, .ref (p 28)), (1, .int v1), (2, .int v2), (3, .int (v3 + (Int32.ofInt 1)))]) ⟨rfl, rfl, rfl, rfl, trivial⟩ rfl k
          have k := ih v2 (v3 + (Int32.ofInt 1)) (lx_dec h12 hc) k
          rw [k, x25_4, if_neg h12, if_neg h28, if_pos h47]
        · rw [if_neg h47] at k
          have k := ly_revb 2 (c' := (52, [(0, .ref (p 28)), (1, .int v1), (2, .int v2), (3, .int v3)], [.ref (p 28), .int v2], me_w M J)) rfl k
          have k := lz_get (a := (p 28)) (g := 101) (M := me_w M J) (v := .ref (p 32)) rfl (nt_gfR rfl hv.2.1) k
          have k := lz_get (a := (p 32)) (g := 812) (M := me_w M J) (v := .ref (p 40)) rfl (nt_gfR rfl (hn.1 (1, 12, 9) (by decide))) k
          have k := ly_revb 1 (c' := (59, [(0, .ref (p 28)), (1, .int v1), (2, .int v2), (3, .int v3)], [.int v3, .ref (p 40), .int v2], me_w M J)) rfl k
          have k := mx_iald (v := J (p 40) v3.toNatClampNeg) rfl (hp.2.2.1 40 (by omega)) (rfl) k
          have k := ly_revb 4 (c' := (4, [(3, .int (v3 + (Int32.ofInt 1))), (2, .int (v2 + (J (p 40) v3.toNatClampNeg))), (0, .ref (p 28)), (1, .int v1)], [], me_w M J)) rfl k
          have k := nt_rn_w (a := [(3, .int (v3 + (Int32.ofInt 1))), (2, .int (v2 + (J (p 40) v3.toNatClampNeg))), (0, .ref (p 28)), (1, .int v1)]) (b := [(0, .ref (p 28)), (1, .int v1), (2, .int (v2 + (J (p 40) v3.toNatClampNeg))), (3, .int (v3 + (Int32.ofInt 1)))]) ⟨rfl, rfl, rfl, rfl, trivial⟩ rfl k
          have k := ih (v2 + (J (p 40) v3.toNatClampNeg)) (v3 + (Int32.ofInt 1)) (lx_dec h12 hc) k
          rw [k, x25_4, if_neg h12, if_neg h28, if_neg h47]
theorem x25_4_rule {p : Nat → Nat} {v1 : Int32} {J : Nat → Nat → Int32} {I : Nat → Int32 → Int32 → Prop} {Q : Int32 → Prop} (h0 : ∀ (v2 : Int32) (v3 : Int32), I 0 v2 v3 → Q v2) (h1 : ∀ (c : Nat) (v2 : Int32) (v3 : Int32), I (c + 1) v2 v3 →
    if (J (p 32) 3) ≤ v3 then (Q v2)
    else if (x14 v1 (J (p 37) v3.toNatClampNeg)) = 0 then (I c v2 (v3 + (Int32.ofInt 1)))
      else if (J (p 38) v3.toNatClampNeg) < (J (p 31) 2) then (I c v2 (v3 + (Int32.ofInt 1)))
        else (I c (v2 + (J (p 40) v3.toNatClampNeg)) (v3 + (Int32.ofInt 1)))) : ∀ (c : Nat) (v2 : Int32) (v3 : Int32), I c v2 v3 → Q (x25_4 p v1 J c v2 v3) := by
  intro c
  induction c with
  | zero =>
    intro v2 v3 hi
    rw [x25_4]
    exact h0 v2 v3 hi
  | succ c ih =>
    intro v2 v3 hi
    have hi := h1 c v2 v3 hi
    rw [x25_4]
    by_cases h : (J (p 32) 3) ≤ v3
    · rw [if_pos h] at hi ⊢
      exact hi
    · rw [if_neg h] at hi ⊢
      by_cases h : (x14 v1 (J (p 37) v3.toNatClampNeg)) = 0
      · rw [if_pos h] at hi ⊢
        exact ih _ _ hi
      · rw [if_neg h] at hi ⊢
        by_cases h : (J (p 38) v3.toNatClampNeg) < (J (p 31) 2)
        · rw [if_pos h] at hi ⊢
          exact ih _ _ hi
        · rw [if_neg h] at hi ⊢
          exact ih _ _ hi
def x25 (p : Nat → Nat) (v1 : Int32) (J : Nat → Nat → Int32) : Int32 := (x25_4 p v1 J ((J (p 32) 3).toNatClampNeg) (Int32.ofInt 0) (Int32.ofInt 0))
theorem xt25 {X : nt_X} {d : Nat} {M : nt_M} {o : Option Value × nt_M} {p : Nat → Nat} {v1 : Int32} {J : Nat → Nat → Int32} (hp : xs_P M p) (hn : xs_Q M (fun i => p (31 + i))) (hv : xs_V M p) (k : nt_ev X d 25 [.ref (p 28), .int v1] (me_w M J) o) : o = (some (.int (x25 p v1 J)), me_w M J) := by
  have k : nt_rn X d 25 (0, [(0, .ref (p 28)), (1, .int v1)], [], me_w M J) o := k
  have k := ly_revb 4 (c' := (4, [(3, .int (Int32.ofInt 0)), (2, .int (Int32.ofInt 0)), (0, .ref (p 28)), (1, .int v1)], [], me_w M J)) rfl k
  have k := nt_rn_w (a := [(3, .int (Int32.ofInt 0)), (2, .int (Int32.ofInt 0)), (0, .ref (p 28)), (1, .int v1)]) (b := [(0, .ref (p 28)), (1, .int v1), (2, .int (Int32.ofInt 0)), (3, .int (Int32.ofInt 0))]) ⟨rfl, rfl, rfl, rfl, trivial⟩ rfl k
  have k := xt25_4 hp hn hv  ((J (p 32) 3).toNatClampNeg) (Int32.ofInt 0) (Int32.ofInt 0) (lx_beg (by decide)) k
  rw [k, x25]
/-! $Plans.canBeWhole -/
def x26_23 (p : Nat → Nat) (v1 : Int32) (v2 : Int32) (J : Nat → Nat → Int32) : Nat → Int32 → Int32 → Int32
  | 0, v3, v4 => v3
  | c + 1, v3, v4 => if (J (p 32) 1) ≤ v4 then v3
    else if (x14 v1 v4) = 0 then (x26_23 p v1 v2 J c (v3 - (Int32.ofInt 0)) (v4 + (Int32.ofInt 1)))
      else (x26_23 p v1 v2 J c (v3 - (x87 (fun i => p (31 + i)) v4 v2 J)) (v4 + (Int32.ofInt 1)))
theorem xt26_23 {X : nt_X} {d : Nat} {M : nt_M} {o : Option Value × nt_M} {p : Nat → Nat} {v1 : Int32} {v2 : Int32} {J : Nat → Nat → Int32} (hp : xs_P M p) (hn : xs_Q M (fun i => p (31 + i))) (hv : xs_V M p) : ∀ (c : Nat) (v3 : Int32) (v4 : Int32), (J (p 32) 1).toInt - v4.toInt ≤ c → nt_rn X d 26 (23, [(0, .ref (p 28)), (1, .int v1), (2, .int v2), (3, .int v3), (4, .int v4)], [], me_w M J) o → ∃ (w4 : Int32), nt_rn X d 26 (67, [(0, .ref (p 28)), (1, .int v1), (2, .int v2), (3, .int (x26_23 p v1 v2 J c v3 v4)), (4, .int w4)], [], me_w M J) o := by
  intro c
  induction c with
  | zero =>
    intro v3 v4 hc k
    have k := ly_revb 2 (c' := (26, [(0, .ref (p 28)), (1, .int v1), (2, .int v2), (3, .int v3), (4, .int v4)], [.ref (p 28), .int v4], me_w M J)) rfl k
    have k := lz_get (a := (p 28)) (g := 101) (M := me_w M J) (v := .ref (p 32)) rfl (nt_gfR rfl hv.2.1) k
    have k := lz_get (a := (p 32)) (g := 801) (M := me_w M J) (v := .int (J (p 32) 1)) rfl (congrArg Value.int (rfl)) k
    have k := ly_revb 1 (c' := (if (J (p 32) 1) ≤ v4 then 67 else 35, [(0, .ref (p 28)), (1, .int v1), (2, .int v2), (3, .int v3), (4, .int v4)], [], me_w M J)) rfl k
    have h32 : (J (p 32) 1) ≤ v4 := lx_end hc
    rw [if_pos h32] at k
    have k := nt_rn_w (a := [(0, .ref (p 28)), (1, .int v1), (2, .int v2), (3, .int v3), (4, .int v4)]) (b := [(0, .ref (p 28)), (1, .int v1), (2, .int v2), (3, .int v3), (4, .int v4)]) ⟨rfl, rfl, rfl, rfl, rfl, trivial⟩ rfl k
    rw [x26_23]
    exact ⟨_, k⟩
  | succ c ih =>
    intro v3 v4 hc k
    have k := ly_revb 2 (c' := (26, [(0, .ref (p 28)), (1, .int v1), (2, .int v2), (3, .int v3), (4, .int v4)], [.ref (p 28), .int v4], me_w M J)) rfl k
    have k := lz_get (a := (p 28)) (g := 101) (M := me_w M J) (v := .ref (p 32)) rfl (nt_gfR rfl hv.2.1) k
    have k := lz_get (a := (p 32)) (g := 801) (M := me_w M J) (v := .int (J (p 32) 1)) rfl (congrArg Value.int (rfl)) k
    have k := ly_revb 1 (c' := (if (J (p 32) 1) ≤ v4 then 67 else 35, [(0, .ref (p 28)), (1, .int v1), (2, .int v2), (3, .int v3), (4, .int v4)], [], me_w M J)) rfl k
    by_cases h32 : (J (p 32) 1) ≤ v4
    · rw [if_pos h32] at k
      have k := nt_rn_w (a := [(0, .ref (p 28)), (1, .int v1), (2, .int v2), (3, .int v3), (4, .int v4)]) (b := [(0, .ref (p 28)), (1, .int v1), (2, .int v2), (3, .int v3), (4, .int v4)]) ⟨rfl, rfl, rfl, rfl, rfl, trivial⟩ rfl k
      rw [x26_23, if_pos h32]
      exact ⟨_, k⟩
    · rw [if_neg h32] at k
      have k := ly_revb 3 (c' := (39, [(0, .ref (p 28)), (1, .int v1), (2, .int v2), (3, .int v3), (4, .int v4)], [.int v4, .int v1, .int v3], me_w M J)) rfl k
      obtain ⟨d1, o1, ed, kc, k⟩ := lz_c (g := 14) (q := 0) (vs := [.int v1, .int v4]) (rest := [.int v3]) rfl rfl (by decide) (Or.inl ⟨_, rfl, rfl⟩) rfl k
      have e1 := xt14  kc
      subst e1
      have k : nt_rn X _ 26 (42, [(0, .ref (p 28)), (1, .int v1), (2, .int v2), (3, .int v3), (4, .int v4)], [.int (x14 v1 v4), .int v3], me_w M J) _ := k
      have k := ly_revb 1 (c' := (if (x14 v1 v4) = 0 then 58 else 45, [(0, .ref (p 28)), (1, .int v1), (2, .int v2), (3, .int v3), (4, .int v4)], [.int v3], me_w M J)) rfl k
      by_cases h42 : (x14 v1 v4) = 0
      · rw [if_pos h42] at k
        have k := ly_revb 5 (c' := (23, [(4, .int (v4 + (Int32.ofInt 1))), (3, .int (v3 - (Int32.ofInt 0))), (0, .ref (p 28)), (1, .int v1), (2, .int v2)], [], me_w M J)) rfl k
        have k := nt_rn_w (a := [(4, .int (v4 + (Int32.ofInt 1))), (3, .int (v3 - (Int32.ofInt 0))), (0, .ref (p 28)), (1, .int v1), (2, .int v2)]) (b := [(0, .ref (p 28)), (1, .int v1), (2, .int v2), (3, .int (v3 - (Int32.ofInt 0))), (4, .int (v4 + (Int32.ofInt 1)))]) ⟨rfl, rfl, rfl, rfl, rfl, trivial⟩ rfl k
        have k := ih (v3 - (Int32.ofInt 0)) (v4 + (Int32.ofInt 1)) (lx_dec h32 hc) k
        rw [x26_23, if_neg h32, if_pos h42]
        exact k
      · rw [if_neg h42] at k
        have k := ly_revb 1 (c' := (46, [(0, .ref (p 28)), (1, .int v1), (2, .int v2), (3, .int v3), (4, .int v4)], [.ref (p 28), .int v3], me_w M J)) rfl k
        have k := lz_get (a := (p 28)) (g := 101) (M := me_w M J) (v := .ref (p 32)) rfl (nt_gfR rfl hv.2.1) k
        have k := ly_revb 2 (c' := (52, [(0, .ref (p 28)), (1, .int v1), (2, .int v2), (3, .int v3), (4, .int v4)], [.int v2, .int v4, .ref (p 32), .int v3], me_w M J)) rfl k
        obtain ⟨d1, o1, ed, kc, k⟩ := lz_c (g := 87) (q := 1) (vs := [.ref (p 32), .int v4, .int v2]) (rest := [.int v3]) rfl rfl (by decide) (Or.inr (Or.inl ⟨_, rfl, rfl⟩)) rfl k
        have e1 := xt87 hn kc
        subst e1
        have k : nt_rn X _ 26 (55, [(0, .ref (p 28)), (1, .int v1), (2, .int v2), (3, .int v3), (4, .int v4)], [.int (x87 (fun i => p (31 + i)) v4 v2 J), .int v3], me_w M J) _ := k
        have k := ly_revb 5 (c' := (23, [(4, .int (v4 + (Int32.ofInt 1))), (3, .int (v3 - (x87 (fun i => p (31 + i)) v4 v2 J))), (0, .ref (p 28)), (1, .int v1), (2, .int v2)], [], me_w M J)) rfl k
        have k := nt_rn_w (a := [(4, .int (v4 + (Int32.ofInt 1))), (3, .int (v3 - (x87 (fun i => p (31 + i)) v4 v2 J))), (0, .ref (p 28)), (1, .int v1), (2, .int v2)]) (b := [(0, .ref (p 28)), (1, .int v1), (2, .int v2), (3, .int (v3 - (x87 (fun i => p (31 + i)) v4 v2 J))), (4, .int (v4 + (Int32.ofInt 1)))]) ⟨rfl, rfl, rfl, rfl, rfl, trivial⟩ rfl k
        have k := ih (v3 - (x87 (fun i => p (31 + i)) v4 v2 J)) (v4 + (Int32.ofInt 1)) (lx_dec h32 hc) k
        rw [x26_23, if_neg h32, if_neg h42]
        exact k
theorem x26_23_rule {p : Nat → Nat} {v1 : Int32} {v2 : Int32} {J : Nat → Nat → Int32} {I : Nat → Int32 → Int32 → Prop} {Q : Int32 → Prop} (h0 : ∀ (v3 : Int32) (v4 : Int32), I 0 v3 v4 → Q v3) (h1 : ∀ (c : Nat) (v3 : Int32) (v4 : Int32), I (c + 1) v3 v4 →
    if (J (p 32) 1) ≤ v4 then (Q v3)
    else if (x14 v1 v4) = 0 then (I c (v3 - (Int32.ofInt 0)) (v4 + (Int32.ofInt 1)))
      else (I c (v3 - (x87 (fun i => p (31 + i)) v4 v2 J)) (v4 + (Int32.ofInt 1)))) : ∀ (c : Nat) (v3 : Int32) (v4 : Int32), I c v3 v4 → Q (x26_23 p v1 v2 J c v3 v4) := by
  intro c
  induction c with
  | zero =>
    intro v3 v4 hi
    rw [x26_23]
    exact h0 v3 v4 hi
  | succ c ih =>
    intro v3 v4 hi
    have hi := h1 c v3 v4 hi
    rw [x26_23]
    by_cases h : (J (p 32) 1) ≤ v4
    · rw [if_pos h] at hi ⊢
      exact hi
    · rw [if_neg h] at hi ⊢
      by_cases h : (x14 v1 v4) = 0
      · rw [if_pos h] at hi ⊢
        exact ih _ _ hi
      · rw [if_neg h] at hi ⊢
        exact ih _ _ hi
def x26_2 (p : Nat → Nat) (v1 : Int32) (J : Nat → Nat → Int32) : Nat → Int32 → Int32
  | 0, v2 => (Int32.ofInt 1)
  | c + 1, v2 => if (J (p 32) 0) ≤ v2 then (Int32.ofInt 1)
    else if 0 ≤ (x26_23 p v1 v2 J ((J (p 32) 1).toNatClampNeg) (J (p 30) v2.toNatClampNeg) (Int32.ofInt 0)) then (x26_2 p v1 J c (v2 + (Int32.ofInt 1)))
      else (Int32.ofInt 0)
theorem xt26_2 {X : nt_X} {d : Nat} {M : nt_M} {o : Option Value × nt_M} {p : Nat → Nat} {v1 : Int32} {J : Nat → Nat → Int32} (hp : xs_P M p) (hn : xs_Q M (fun i => p (31 + i))) (hv : xs_V M p) : ∀ (c : Nat) (v2 : Int32) (v3 : Int32) (v4 : Int32), (J (p 32) 0).toInt - v2.toInt ≤ c → nt_rn X d 26 (2, [(0, .ref (p 28)), (1, .int v1), (2, .int v2), (3, .int v3), (4, .int v4)], [], me_w M J) o → o = (some (.int (x26_2 p v1 J c v2)), me_w M J) := by
  intro c
  induction c with
  | zero =>
    intro v2 v3 v4 hc k
    have k := ly_revb 2 (c' := (4, [(0, .ref (p 28)), (1, .int v1), (2, .int v2), (3, .int v3), (4, .int v4)], [.ref (p 28), .int v2], me_w M J)) rfl k
    have k := lz_get (a := (p 28)) (g := 101) (M := me_w M J) (v := .ref (p 32)) rfl (nt_gfR rfl hv.2.1) k
    have k := lz_get (a := (p 32)) (g := 800) (M := me_w M J) (v := .int (J (p 32) 0)) rfl (congrArg Value.int (rfl)) k
    have k := ly_revb 1 (c' := (if (J (p 32) 0) ≤ v2 then 79 else 13, [(0, .ref (p 28)), (1, .int v1), (2, .int v2), (3, .int v3), (4, .int v4)], [], me_w M J)) rfl k
    have h10 : (J (p 32) 0) ≤ v2 := lx_end hc
    rw [if_pos h10] at k
    have k := ly_revb 1 (c' := (80, [(0, .ref (p 28)), (1, .int v1), (2, .int v2), (3, .int v3), (4, .int v4)], [.int (Int32.ofInt 1)], me_w M J)) rfl k
    have k := lz_ri rfl (by decide) k
    rw [k, x26_2]
  | succ c ih =>
    intro v2 v3 v4 hc k
    have k := ly_revb 2 (c' := (4, [(0, .ref (p 28)), (1, .int v1), (2, .int v2), (3, .int v3), (4, .int v4)], [.ref (p 28), .int v2], me_w M J)) rfl k
    have k := lz_get (a := (p 28)) (g := 101) (M := me_w M J) (v := .ref (p 32)) rfl (nt_gfR rfl hv.2.1) k
    have k := lz_get (a := (p 32)) (g := 800) (M := me_w M J) (v := .int (J (p 32) 0)) rfl (congrArg Value.int (rfl)) k
    have k := ly_revb 1 (c' := (if (J (p 32) 0) ≤ v2 then 79 else 13, [(0, .ref (p 28)), (1, .int v1), (2, .int v2), (3, .int v3), (4, .int v4)], [], me_w M J)) rfl k
    by_cases h10 : (J (p 32) 0) ≤ v2
    · rw [if_pos h10] at k
      have k := ly_revb 1 (c' := (80, [(0, .ref (p 28)), (1, .int v1), (2, .int v2), (3, .int v3), (4, .int v4)], [.int (Int32.ofInt 1)], me_w M J)) rfl k
      have k := lz_ri rfl (by decide) k
      rw [k, x26_2, if_pos h10]
    · rw [if_neg h10] at k
      have k := ly_revb 1 (c' := (14, [(0, .ref (p 28)), (1, .int v1), (2, .int v2), (3, .int v3), (4, .int v4)], [.ref (p 28)], me_w M J)) rfl k
      have k := lz_get (a := (p 28)) (g := 103) (M := me_w M J) (v := .ref (p 30)) rfl (nt_gfR rfl (hp.1 (28, 3, 30) (by decide))) k
      have k := ly_revb 1 (c' := (18, [(0, .ref (p 28)), (1, .int v1), (2, .int v2), (3, .int v3), (4, .int v4)], [.int v2, .ref (p 30)], me_w M J)) rfl k
      have k := mx_iald (v := J (p 30) v2.toNatClampNeg) rfl (hp.2.2.1 30 (by omega)) (rfl) k
      have k := ly_revb 3 (c' := (23, [(4, .int (Int32.ofInt 0)), (3, .int (J (p 30) v2.toNatClampNeg)), (0, .ref (p 28)), (1, .int v1), (2, .int v2)], [], me_w M J)) rfl k
      have k := nt_rn_w (a := [(4, .int (Int32.ofInt 0)), (3, .int (J (p 30) v2.toNatClampNeg)), (0, .ref (p 28)), (1, .int v1), (2, .int v2)]) (b := [(0, .ref (p 28)), (1, .int v1), (2, .int v2), (3, .int (J (p 30) v2.toNatClampNeg)), (4, .int (Int32.ofInt 0))]) ⟨rfl, rfl, rfl, rfl, rfl, trivial⟩ rfl k
      have k := xt26_23 hp hn hv  ((J (p 32) 1).toNatClampNeg) (J (p 30) v2.toNatClampNeg) (Int32.ofInt 0) (lx_beg (by decide)) k
      obtain ⟨w4, k⟩ := k
      have k : nt_rn X _ 26 (67, [(0, .ref (p 28)), (1, .int v1), (2, .int v2), (3, .int (x26_23 p v1 v2 J ((J (p 32) 1).toNatClampNeg) (J (p 30) v2.toNatClampNeg) (Int32.ofInt 0))), (4, .int w4)], [], me_w M J) _ := k
      have k := ly_revb 2 (c' := (if 0 ≤ (x26_23 p v1 v2 J ((J (p 32) 1).toNatClampNeg) (J (p 30) v2.toNatClampNeg) (Int32.ofInt 0)) then 73 else 71, [(0, .ref (p 28)), (1, .int v1), (2, .int v2), (3, .int (x26_23 p v1 v2 J ((J (p 32) 1).toNatClampNeg) (J (p 30) v2.toNatClampNeg) (Int32.ofInt 0))), (4, .int w4)], [], me_w M J)) rfl k
      by_cases h68 : 0 ≤ (x26_23 p v1 v2 J ((J (p 32) 1).toNatClampNeg) (J (p 30) v2.toNatClampNeg) (Int32.ofInt 0))
      · rw [if_pos h68] at k
        have k := ly_revb 2 (c' := (2, [(2, .int (v2 + (Int32.ofInt 1))), (0, .ref (p 28)), (1, .int v1), (3, .int (x26_23 p v1 v2 J ((J (p 32) 1).toNatClampNeg) (J (p 30) v2.toNatClampNeg) (Int32.ofInt 0))), (4, .int w4)], [], me_w M J)) rfl k
        have k := nt_rn_w (a := [(2, .int (v2 + (Int32.ofInt 1))), (0, .ref (p 28)), (1, .int v1), (3, .int (x26_23 p v1 v2 J ((J (p 32) 1).toNatClampNeg) (J (p 30) v2.toNatClampNeg) (Int32.ofInt 0))), (4, .int w4)]) (b := [(0, .ref (p 28)), (1, .int v1), (2, .int (v2 + (Int32.ofInt 1))), (3, .int (x26_23 p v1 v2 J ((J (p 32) 1).toNatClampNeg) (J (p 30) v2.toNatClampNeg) (Int32.ofInt 0))), (4, .int w4)]) ⟨rfl, rfl, rfl, rfl, rfl, trivial⟩ rfl k
        have k := ih (v2 + (Int32.ofInt 1)) (x26_23 p v1 v2 J ((J (p 32) 1).toNatClampNeg) (J (p 30) v2.toNatClampNeg) (Int32.ofInt 0)) w4 (lx_dec h10 hc) k
        rw [k, x26_2, if_neg h10, if_pos h68]
      · rw [if_neg h68] at k
        have k := ly_revb 1 (c' := (72, [(0, .ref (p 28)), (1, .int v1), (2, .int v2), (3, .int (x26_23 p v1 v2 J ((J (p 32) 1).toNatClampNeg) (J (p 30) v2.toNatClampNeg) (Int32.ofInt 0))), (4, .int w4)], [.int (Int32.ofInt 0)], me_w M J)) rfl k
        have k := lz_ri rfl (by decide) k
        rw [k, x26_2, if_neg h10, if_neg h68]
theorem x26_2_rule {p : Nat → Nat} {v1 : Int32} {J : Nat → Nat → Int32} {I : Nat → Int32 → Prop} {Q : Int32 → Prop} (h0 : ∀ (v2 : Int32), I 0 v2 → Q (Int32.ofInt 1)) (h1 : ∀ (c : Nat) (v2 : Int32), I (c + 1) v2 →
    if (J (p 32) 0) ≤ v2 then (Q (Int32.ofInt 1))
    else if 0 ≤ (x26_23 p v1 v2 J ((J (p 32) 1).toNatClampNeg) (J (p 30) v2.toNatClampNeg) (Int32.ofInt 0)) then (I c (v2 + (Int32.ofInt 1)))
      else (Q (Int32.ofInt 0))) : ∀ (c : Nat) (v2 : Int32), I c v2 → Q (x26_2 p v1 J c v2) := by
  intro c
  induction c with
  | zero =>
    intro v2 hi
    rw [x26_2]
    exact h0 v2 hi
  | succ c ih =>
    intro v2 hi
    have hi := h1 c v2 hi
    rw [x26_2]
    by_cases h : (J (p 32) 0) ≤ v2
    · rw [if_pos h] at hi ⊢
      exact hi
    · rw [if_neg h] at hi ⊢
      by_cases h : 0 ≤ (x26_23 p v1 v2 J ((J (p 32) 1).toNatClampNeg) (J (p 30) v2.toNatClampNeg) (Int32.ofInt 0))
      · rw [if_pos h] at hi ⊢
        exact ih _ hi
      · rw [if_neg h] at hi ⊢
        exact hi
def x26 (p : Nat → Nat) (v1 : Int32) (J : Nat → Nat → Int32) : Int32 := (x26_2 p v1 J ((J (p 32) 0).toNatClampNeg) (Int32.ofInt 0))
theorem xt26 {X : nt_X} {d : Nat} {M : nt_M} {o : Option Value × nt_M} {p : Nat → Nat} {v1 : Int32} {J : Nat → Nat → Int32} (hp : xs_P M p) (hn : xs_Q M (fun i => p (31 + i))) (hv : xs_V M p) (k : nt_ev X d 26 [.ref (p 28), .int v1] (me_w M J) o) : o = (some (.int (x26 p v1 J)), me_w M J) := by
  have k : nt_rn X d 26 (0, [(0, .ref (p 28)), (1, .int v1)], [], me_w M J) o := k
  have k := ly_revb 2 (c' := (2, [(2, .int (Int32.ofInt 0)), (0, .ref (p 28)), (1, .int v1)], [], me_w M J)) rfl k
  have k := nt_rn_w (a := [(2, .int (Int32.ofInt 0)), (0, .ref (p 28)), (1, .int v1)]) (b := [(0, .ref (p 28)), (1, .int v1), (2, .int (Int32.ofInt 0)), (3, .int (Int32.ofInt 0)), (4, .int (Int32.ofInt 0))]) ⟨rfl, rfl, rfl, trivial⟩ rfl k
  have k := xt26_2 hp hn hv  ((J (p 32) 0).toNatClampNeg) (Int32.ofInt 0) (Int32.ofInt 0) (Int32.ofInt 0) (lx_beg (by decide)) k
  rw [k, x26]
/-! $Plans.bestShips -/
def x24_15 (p : Nat → Nat) (v3 : Int32) (J : Nat → Nat → Int32) : Nat → Int32 → Int32 → Int32 → Int32
  | 0, v1, v2, v4 => v1
  | c + 1, v1, v2, v4 => if ((Int32.ofInt 1) <<< ((J (p 32) 1) &&& 31)) ≤ v4 then v1
    else if (v4 &&& v3) = 0 then if (x21 (x25 p v4 J) v4 v2 v1) = 0 then (x24_15 p v3 J c v1 v2 (v4 + (Int32.ofInt 1)))
        else if (x26 p v4 J) = 0 then (x24_15 p v3 J c v1 v2 (v4 + (Int32.ofInt 1)))
          else (x24_15 p v3 J c v4 (x25 p v4 J) (v4 + (Int32.ofInt 1)))
      else (x24_15 p v3 J c v1 v2 (v4 + (Int32.ofInt 1)))
theorem xt24_15 {X : nt_X} {d : Nat} {M : nt_M} {o : Option Value × nt_M} {p : Nat → Nat} {v3 : Int32} {J : Nat → Nat → Int32} (hp : xs_P M p) (hn : xs_Q M (fun i => p (31 + i))) (hv : xs_V M p) : ∀ (c : Nat) (v1 : Int32) (v2 : Int32) (v4 : Int32) (v5 : Int32), ((Int32.ofInt 1) <<< ((J (p 32) 1) &&& 31)).toInt - v4.toInt ≤ c → nt_rn X d 24 (15, [(0, .ref (p 28)), (1, .int v1), (2, .int v2), (3, .int v3), (4, .int v4), (5, .int v5)], [], me_w M J) o → o = (some (.int (x24_15 p v3 J c v1 v2 v4)), me_w M J) := by
  intro c
  induction c with
  | zero =>
    intro v1 v2 v4 v5 hc k
    have k := ly_revb 3 (c' := (19, [(0, .ref (p 28)), (1, .int v1), (2, .int v2), (3, .int v3), (4, .int v4), (5, .int v5)], [.ref (p 28), .int (Int32.ofInt 1), .int v4], me_w M J)) rfl k
    have k := lz_get (a := (p 28)) (g := 101) (M := me_w M J) (v := .ref (p 32)) rfl (nt_gfR rfl hv.2.1) k
    have k := lz_get (a := (p 32)) (g := 801) (M := me_w M J) (v := .int (J (p 32) 1)) rfl (congrArg Value.int (rfl)) k
    have k := ly_revb 2 (c' := (if ((Int32.ofInt 1) <<< ((J (p 32) 1) &&& 31)) ≤ v4 then 77 else 29, [(0, .ref (p 28)), (1, .int v1), (2, .int v2), (3, .int v3), (4, .int v4), (5, .int v5)], [], me_w M J)) rfl k
    have h26 : ((Int32.ofInt 1) <<< ((J (p 32) 1) &&& 31)) ≤ v4 := lx_end hc
    rw [if_pos h26] at k
    have k := ly_revb 1 (c' := (78, [(0, .ref (p 28)), (1, .int v1), (2, .int v2), (3, .int v3), (4, .int v4), (5, .int v5)], [.int v1], me_w M J)) rfl k
    have k := lz_ri rfl (by decide) k
    rw [k, x24_15]
  | succ c ih =>
    intro v1 v2 v4 v5 hc k
    have k := ly_revb 3 (c' := (19, [(0, .ref (p 28)), (1, .int v1), (2, .int v2), (3, .int v3), (4, .int v4), (5, .int v5)], [.ref (p 28), .int (Int32.ofInt 1), .int v4], me_w M J)) rfl k
    have k := lz_get (a := (p 28)) (g := 101) (M := me_w M J) (v := .ref (p 32)) rfl (nt_gfR rfl hv.2.1) k
    have k := lz_get (a := (p 32)) (g := 801) (M := me_w M J) (v := .int (J (p 32) 1)) rfl (congrArg Value.int (rfl)) k
    have k := ly_revb 2 (c' := (if ((Int32.ofInt 1) <<< ((J (p 32) 1) &&& 31)) ≤ v4 then 77 else 29, [(0, .ref (p 28)), (1, .int v1), (2, .int v2), (3, .int v3), (4, .int v4), (5, .int v5)], [], me_w M J)) rfl k
    by_cases h26 : ((Int32.ofInt 1) <<< ((J (p 32) 1) &&& 31)) ≤ v4
    · rw [if_pos h26] at k
      have k := ly_revb 1 (c' := (78, [(0, .ref (p 28)), (1, .int v1), (2, .int v2), (3, .int v3), (4, .int v4), (5, .int v5)], [.int v1], me_w M J)) rfl k
      have k := lz_ri rfl (by decide) k
      rw [k, x24_15, if_pos h26]
    · rw [if_neg h26] at k
      have k := ly_revb 2 (c' := (32, [(0, .ref (p 28)), (1, .int v1), (2, .int v2), (3, .int v3), (4, .int v4), (5, .int v5)], [.int v4, .ref (p 28)], me_w M J)) rfl k
      obtain ⟨d1, o1, ed, kc, k⟩ := lz_c (g := 25) (q := 1) (vs := [.ref (p 28), .int v4]) (rest := []) rfl rfl (by decide) (Or.inr (Or.inl ⟨_, rfl, rfl⟩)) rfl k
      have e1 := xt25 hp hn hv kc
      subst e1
      have k : nt_rn X _ 24 (35, [(0, .ref (p 28)), (1, .int v1), (2, .int v2), (3, .int v3), (4, .int v4), (5, .int v5)], [.int (x25 p v4 J)], me_w M J) _ := k
      have k := ly_revb 5 (c' := (if (v4 &&& v3) = 0 then 44 else 71, [(5, .int (x25 p v4 J)), (0, .ref (p 28)), (1, .int v1), (2, .int v2), (3, .int v3), (4, .int v4)], [], me_w M J)) rfl k
      by_cases h41 : (v4 &&& v3) = 0
      · rw [if_pos h41] at k
        have k := ly_revb 4 (c' := (50, [(5, .int (x25 p v4 J)), (0, .ref (p 28)), (1, .int v1), (2, .int v2), (3, .int v3), (4, .int v4)], [.int v1, .int v2, .int v4, .int (x25 p v4 J)], me_w M J)) rfl k
        obtain ⟨d1, o1, ed, kc, k⟩ := lz_c (g := 21) (q := 0) (vs := [.int (x25 p v4 J), .int v4, .int v2, .int v1]) (rest := []) rfl rfl (by decide) (Or.inl ⟨_, rfl, rfl⟩) rfl k
        have e1 := xt21  kc
        subst e1
        have k : nt_rn X _ 24 (53, [(5, .int (x25 p v4 J)), (0, .ref (p 28)), (1, .int v1), (2, .int v2), (3, .int v3), (4, .int v4)], [.int (x21 (x25 p v4 J) v4 v2 v1)], me_w M J) _ := k
        have k := ly_revb 1 (c' := (if (x21 (x25 p v4 J) v4 v2 v1) = 0 then 71 else 56, [(5, .int (x25 p v4 J)), (0, .ref (p 28)), (1, .int v1), (2, .int v2), (3, .int v3), (4, .int v4)], [], me_w M J)) rfl k
        by_cases h53 : (x21 (x25 p v4 J) v4 v2 v1) = 0
        · rw [if_pos h53] at k
          have k := ly_revb 2 (c' := (15, [(4, .int (v4 + (Int32.ofInt 1))), (5, .int (x25 p v4 J)), (0, .ref (p 28)), (1, .int v1), (2, .int v2), (3, .int v3)], [], me_w M J)) rfl k
          have k := nt_rn_w (a := [(4, .int (v4 + (Int32.ofInt 1))), (5, .int (x25 p v4 J)), (0, .ref (p 28)), (1, .int v1), (2, .int v2), (3, .int v3)]) (b := [(0, .ref (p 28)), (1, .int v1), (2, .int v2), (3, .int v3), (4, .int (v4 + (Int32.ofInt 1))), (5, .int (x25 p v4 J))]) ⟨rfl, rfl, rfl, rfl, rfl, rfl, trivial⟩ rfl k
          have k := ih v1 v2 (v4 + (Int32.ofInt 1)) (x25 p v4 J) (lx_dec h26 hc) k
          rw [k, x24_15, if_neg h26, if_pos h41, if_pos h53]
        · rw [if_neg h53] at k
          have k := ly_revb 2 (c' := (59, [(5, .int (x25 p v4 J)), (0, .ref (p 28)), (1, .int v1), (2, .int v2), (3, .int v3), (4, .int v4)], [.int v4, .ref (p 28)], me_w M J)) rfl k
          obtain ⟨d1, o1, ed, kc, k⟩ := lz_c (g := 26) (q := 1) (vs := [.ref (p 28), .int v4]) (rest := []) rfl rfl (by decide) (Or.inr (Or.inl ⟨_, rfl, rfl⟩)) rfl k
          have e1 := xt26 hp hn hv kc
          subst e1
          have k : nt_rn X _ 24 (62, [(5, .int (x25 p v4 J)), (0, .ref (p 28)), (1, .int v1), (2, .int v2), (3, .int v3), (4, .int v4)], [.int (x26 p v4 J)], me_w M J) _ := k
          have k := ly_revb 1 (c' := (if (x26 p v4 J) = 0 then 71 else 65, [(5, .int (x25 p v4 J)), (0, .ref (p 28)), (1, .int v1), (2, .int v2), (3, .int v3), (4, .int v4)], [], me_w M J)) rfl k
          by_cases h62 : (x26 p v4 J) = 0
          · rw [if_pos h62] at k
            have k := ly_revb 2 (c' := (15, [(4, .int (v4 + (Int32.ofInt 1))), (5, .int (x25 p v4 J)), (0, .ref (p 28)), (1, .int v1), (2, .int v2), (3, .int v3)], [], me_w M J)) rfl k
            have k := nt_rn_w (a := [(4, .int (v4 + (Int32.ofInt 1))), (5, .int (x25 p v4 J)), (0, .ref (p 28)), (1, .int v1), (2, .int v2), (3, .int v3)]) (b := [(0, .ref (p 28)), (1, .int v1), (2, .int v2), (3, .int v3), (4, .int (v4 + (Int32.ofInt 1))), (5, .int (x25 p v4 J))]) ⟨rfl, rfl, rfl, rfl, rfl, rfl, trivial⟩ rfl k
            have k := ih v1 v2 (v4 + (Int32.ofInt 1)) (x25 p v4 J) (lx_dec h26 hc) k
            rw [k, x24_15, if_neg h26, if_pos h41, if_neg h53, if_pos h62]
          · rw [if_neg h62] at k
            have k := ly_revb 6 (c' := (15, [(4, .int (v4 + (Int32.ofInt 1))), (2, .int (x25 p v4 J)), (1, .int v4), (5, .int (x25 p v4 J)), (0, .ref (p 28)), (3, .int v3)], [], me_w M J)) rfl k
            have k := nt_rn_w (a := [(4, .int (v4 + (Int32.ofInt 1))), (2, .int (x25 p v4 J)), (1, .int v4), (5, .int (x25 p v4 J)), (0, .ref (p 28)), (3, .int v3)]) (b := [(0, .ref (p 28)), (1, .int v4), (2, .int (x25 p v4 J)), (3, .int v3), (4, .int (v4 + (Int32.ofInt 1))), (5, .int (x25 p v4 J))]) ⟨rfl, rfl, rfl, rfl, rfl, rfl, trivial⟩ rfl k
            have k := ih v4 (x25 p v4 J) (v4 + (Int32.ofInt 1)) (x25 p v4 J) (lx_dec h26 hc) k
            rw [k, x24_15, if_neg h26, if_pos h41, if_neg h53, if_neg h62]
      · rw [if_neg h41] at k
        have k := ly_revb 2 (c' := (15, [(4, .int (v4 + (Int32.ofInt 1))), (5, .int (x25 p v4 J)), (0, .ref (p 28)), (1, .int v1), (2, .int v2), (3, .int v3)], [], me_w M J)) rfl k
        have k := nt_rn_w (a := [(4, .int (v4 + (Int32.ofInt 1))), (5, .int (x25 p v4 J)), (0, .ref (p 28)), (1, .int v1), (2, .int v2), (3, .int v3)]) (b := [(0, .ref (p 28)), (1, .int v1), (2, .int v2), (3, .int v3), (4, .int (v4 + (Int32.ofInt 1))), (5, .int (x25 p v4 J))]) ⟨rfl, rfl, rfl, rfl, rfl, rfl, trivial⟩ rfl k
        have k := ih v1 v2 (v4 + (Int32.ofInt 1)) (x25 p v4 J) (lx_dec h26 hc) k
        rw [k, x24_15, if_neg h26, if_neg h41]
theorem x24_15_rule {p : Nat → Nat} {v3 : Int32} {J : Nat → Nat → Int32} {I : Nat → Int32 → Int32 → Int32 → Prop} {Q : Int32 → Prop} (h0 : ∀ (v1 : Int32) (v2 : Int32) (v4 : Int32), I 0 v1 v2 v4 → Q v1) (h1 : ∀ (c : Nat) (v1 : Int32) (v2 : Int32) (v4 : Int32), I (c + 1) v1 v2 v4 →
    if ((Int32.ofInt 1) <<< ((J (p 32) 1) &&& 31)) ≤ v4 then (Q v1)
    else if (v4 &&& v3) = 0 then if (x21 (x25 p v4 J) v4 v2 v1) = 0 then (I c v1 v2 (v4 + (Int32.ofInt 1)))
        else if (x26 p v4 J) = 0 then (I c v1 v2 (v4 + (Int32.ofInt 1)))
          else (I c v4 (x25 p v4 J) (v4 + (Int32.ofInt 1)))
      else (I c v1 v2 (v4 + (Int32.ofInt 1)))) : ∀ (c : Nat) (v1 : Int32) (v2 : Int32) (v4 : Int32), I c v1 v2 v4 → Q (x24_15 p v3 J c v1 v2 v4) := by
  intro c
  induction c with
  | zero =>
    intro v1 v2 v4 hi
    rw [x24_15]
    exact h0 v1 v2 v4 hi
  | succ c ih =>
    intro v1 v2 v4 hi
    have hi := h1 c v1 v2 v4 hi
    rw [x24_15]
    by_cases h : ((Int32.ofInt 1) <<< ((J (p 32) 1) &&& 31)) ≤ v4
    · rw [if_pos h] at hi ⊢
      exact hi
    · rw [if_neg h] at hi ⊢
      by_cases h : (v4 &&& v3) = 0
      · rw [if_pos h] at hi ⊢
        by_cases h : (x21 (x25 p v4 J) v4 v2 v1) = 0
        · rw [if_pos h] at hi ⊢
          exact ih _ _ _ hi
        · rw [if_neg h] at hi ⊢
          by_cases h : (x26 p v4 J) = 0
          · rw [if_pos h] at hi ⊢
            exact ih _ _ _ hi
          · rw [if_neg h] at hi ⊢
            exact ih _ _ _ hi
      · rw [if_neg h] at hi ⊢
        exact ih _ _ _ hi
def x24 (p : Nat → Nat) (J : Nat → Nat → Int32) : Int32 := (x24_15 p (x79 (fun i => p (31 + i)) J) J (((Int32.ofInt 1) <<< ((J (p 32) 1) &&& 31)).toNatClampNeg) (Int32.ofInt 0) (Int32.ofInt 0) (Int32.ofInt 1))
theorem xt24 {X : nt_X} {d : Nat} {M : nt_M} {o : Option Value × nt_M} {p : Nat → Nat} {J : Nat → Nat → Int32} (hp : xs_P M p) (hn : xs_Q M (fun i => p (31 + i))) (hv : xs_V M p) (k : nt_ev X d 24 [.ref (p 28)] (me_w M J) o) : o = (some (.int (x24 p J)), me_w M J) := by
  have k : nt_rn X d 24 (0, [(0, .ref (p 28))], [], me_w M J) o := k
  have k := ly_revb 5 (c' := (5, [(2, .int (Int32.ofInt 0)), (1, .int (Int32.ofInt 0)), (0, .ref (p 28))], [.ref (p 28)], me_w M J)) rfl k
  have k := lz_get (a := (p 28)) (g := 100) (M := me_w M J) (v := .ref (p 31)) rfl (nt_gfR rfl hv.1) k
  obtain ⟨d1, o1, ed, kc, k⟩ := lz_c (g := 79) (q := 1) (vs := [.ref (p 31)]) (rest := []) rfl rfl (by decide) (Or.inr (Or.inl ⟨_, rfl, rfl⟩)) rfl k
  have e1 := xt79 hn kc
  subst e1
  have k : nt_rn X _ 24 (11, [(2, .int (Int32.ofInt 0)), (1, .int (Int32.ofInt 0)), (0, .ref (p 28))], [.int (x79 (fun i => p (31 + i)) J)], me_w M J) _ := k
  have k := ly_revb 3 (c' := (15, [(4, .int (Int32.ofInt 1)), (3, .int (x79 (fun i => p (31 + i)) J)), (2, .int (Int32.ofInt 0)), (1, .int (Int32.ofInt 0)), (0, .ref (p 28))], [], me_w M J)) rfl k
  have k := nt_rn_w (a := [(4, .int (Int32.ofInt 1)), (3, .int (x79 (fun i => p (31 + i)) J)), (2, .int (Int32.ofInt 0)), (1, .int (Int32.ofInt 0)), (0, .ref (p 28))]) (b := [(0, .ref (p 28)), (1, .int (Int32.ofInt 0)), (2, .int (Int32.ofInt 0)), (3, .int (x79 (fun i => p (31 + i)) J)), (4, .int (Int32.ofInt 1)), (5, .int (Int32.ofInt 0))]) ⟨rfl, rfl, rfl, rfl, rfl, trivial⟩ rfl k
  have k := xt24_15 hp hn hv  (((Int32.ofInt 1) <<< ((J (p 32) 1) &&& 31)).toNatClampNeg) (Int32.ofInt 0) (Int32.ofInt 0) (Int32.ofInt 1) (Int32.ofInt 0) (lx_beg (by decide)) k
  rw [k, x24]
/-! $Plans.leastEnduring -/
def x23_6 (p : Nat → Nat) (v1 : Int32) (v2 : Int32) (v3 : Int32) (J : Nat → Nat → Int32) : Nat → Int32 → Int32 → Int32
  | 0, v4, v5 => v4
  | c + 1, v4, v5 => if (J (p 32) 2) ≤ v5 then v4
    else if (J (p 34) v5.toNatClampNeg) = v1 then if (x73 (fun i => p (31 + i)) v5 J) = 0 then (x23_6 p v1 v2 v3 J c v4 (v5 + (Int32.ofInt 1)))
        else if (J (p 44) v5.toNatClampNeg) < v2 then (x23_6 p v1 v2 v3 J c v4 (v5 + (Int32.ofInt 1)))
          else if (x14 v3 v5) = 0 then if v4 = (Int32.ofInt (-1)) then (x23_6 p v1 v2 v3 J c v5 (v5 + (Int32.ofInt 1)))
              else if (J (p 44) v4.toNatClampNeg) ≤ (J (p 44) v5.toNatClampNeg) then (x23_6 p v1 v2 v3 J c v4 (v5 + (Int32.ofInt 1)))
                else (x23_6 p v1 v2 v3 J c v5 (v5 + (Int32.ofInt 1)))
            else (x23_6 p v1 v2 v3 J c v4 (v5 + (Int32.ofInt 1)))
      else (x23_6 p v1 v2 v3 J c v4 (v5 + (Int32.ofInt 1)))
theorem xt23_6 {X : nt_X} {d : Nat} {M : nt_M} {o : Option Value × nt_M} {p : Nat → Nat} {v1 : Int32} {v2 : Int32} {v3 : Int32} {J : Nat → Nat → Int32} (hp : xs_P M p) (hn : xs_Q M (fun i => p (31 + i))) (hv : xs_V M p) : ∀ (c : Nat) (v4 : Int32) (v5 : Int32) (v6 : Int32), (J (p 32) 2).toInt - v5.toInt ≤ c → nt_rn X d 23 (6, [(0, .ref (p 28)), (1, .int v1), (2, .int v2), (3, .int v3), (4, .int v4), (5, .int v5), (6, .int v6)], [], me_w M J) o → o = (some (.int (x23_6 p v1 v2 v3 J c v4 v5)), me_w M J) := by
  intro c
  induction c with
  | zero =>
    intro v4 v5 v6 hc k
    have k := ly_revb 2 (c' := (9, [(0, .ref (p 28)), (1, .int v1), (2, .int v2), (3, .int v3), (4, .int v4), (5, .int v5), (6, .int v6)], [.ref (p 28), .int v5], me_w M J)) rfl k
    have k := lz_get (a := (p 28)) (g := 101) (M := me_w M J) (v := .ref (p 32)) rfl (nt_gfR rfl hv.2.1) k
    have k := lz_get (a := (p 32)) (g := 802) (M := me_w M J) (v := .int (J (p 32) 2)) rfl (congrArg Value.int (rfl)) k
    have k := ly_revb 1 (c' := (if (J (p 32) 2) ≤ v5 then 118 else 18, [(0, .ref (p 28)), (1, .int v1), (2, .int v2), (3, .int v3), (4, .int v4), (5, .int v5), (6, .int v6)], [], me_w M J)) rfl k
    have h15 : (J (p 32) 2) ≤ v5 := lx_end hc
    rw [if_pos h15] at k
    have k := ly_revb 1 (c' := (120, [(0, .ref (p 28)), (1, .int v1), (2, .int v2), (3, .int v3), (4, .int v4), (5, .int v5), (6, .int v6)], [.int v4], me_w M J)) rfl k
    have k := lz_ri rfl (by decide) k
    rw [k, x23_6]
  | succ c ih =>
    intro v4 v5 v6 hc k
    have k := ly_revb 2 (c' := (9, [(0, .ref (p 28)), (1, .int v1), (2, .int v2), (3, .int v3), (4, .int v4), (5, .int v5), (6, .int v6)], [.ref (p 28), .int v5], me_w M J)) rfl k
    have k := lz_get (a := (p 28)) (g := 101) (M := me_w M J) (v := .ref (p 32)) rfl (nt_gfR rfl hv.2.1) k
    have k := lz_get (a := (p 32)) (g := 802) (M := me_w M J) (v := .int (J (p 32) 2)) rfl (congrArg Value.int (rfl)) k
    have k := ly_revb 1 (c' := (if (J (p 32) 2) ≤ v5 then 118 else 18, [(0, .ref (p 28)), (1, .int v1), (2, .int v2), (3, .int v3), (4, .int v4), (5, .int v5), (6, .int v6)], [], me_w M J)) rfl k
    by_cases h15 : (J (p 32) 2) ≤ v5
    · rw [if_pos h15] at k
      have k := ly_revb 1 (c' := (120, [(0, .ref (p 28)), (1, .int v1), (2, .int v2), (3, .int v3), (4, .int v4), (5, .int v5), (6, .int v6)], [.int v4], me_w M J)) rfl k
      have k := lz_ri rfl (by decide) k
      rw [k, x23_6, if_pos h15]
    · rw [if_neg h15] at k
      have k := ly_revb 1 (c' := (19, [(0, .ref (p 28)), (1, .int v1), (2, .int v2), (3, .int v3), (4, .int v4), (5, .int v5), (6, .int v6)], [.ref (p 28)], me_w M J)) rfl k
      have k := lz_get (a := (p 28)) (g := 101) (M := me_w M J) (v := .ref (p 32)) rfl (nt_gfR rfl hv.2.1) k
      have k := lz_get (a := (p 32)) (g := 806) (M := me_w M J) (v := .ref (p 34)) rfl (nt_gfR rfl (hn.1 (1, 6, 3) (by decide))) k
      have k := ly_revb 1 (c' := (27, [(0, .ref (p 28)), (1, .int v1), (2, .int v2), (3, .int v3), (4, .int v4), (5, .int v5), (6, .int v6)], [.int v5, .ref (p 34)], me_w M J)) rfl k
      have k := mx_iald (v := J (p 34) v5.toNatClampNeg) rfl (hp.2.2.1 34 (by omega)) (rfl) k
      have k := ly_revb 2 (c' := (if (J (p 34) v5.toNatClampNeg) = v1 then 32 else 62, [(0, .ref (p 28)), (1, .int v1), (2, .int v2), (3, .int v3), (4, .int v4), (5, .int v5), (6, .int v6)], [], me_w M J)) rfl k
      by_cases h29 : (J (p 34) v5.toNatClampNeg) = v1
      · rw [if_pos h29] at k
        have k := ly_revb 1 (c' := (33, [(0, .ref (p 28)), (1, .int v1), (2, .int v2), (3, .int v3), (4, .int v4), (5, .int v5), (6, .int v6)], [.ref (p 28)], me_w M J)) rfl k
        have k := lz_get (a := (p 28)) (g := 100) (M := me_w M J) (v := .ref (p 31)) rfl (nt_gfR rfl hv.1) k
        have k := ly_revb 1 (c' := (38, [(0, .ref (p 28)), (1, .int v1), (2, .int v2), (3, .int v3), (4, .int v4), (5, .int v5), (6, .int v6)], [.int v5, .ref (p 31)], me_w M J)) rfl k
        obtain ⟨d1, o1, ed, kc, k⟩ := lz_c (g := 73) (q := 1) (vs := [.ref (p 31), .int v5]) (rest := []) rfl rfl (by decide) (Or.inr (Or.inl ⟨_, rfl, rfl⟩)) rfl k
        have e1 := xt73 hn kc
        subst e1
        have k : nt_rn X _ 23 (41, [(0, .ref (p 28)), (1, .int v1), (2, .int v2), (3, .int v3), (4, .int v4), (5, .int v5), (6, .int v6)], [.int (x73 (fun i => p (31 + i)) v5 J)], me_w M J) _ := k
        have k := ly_revb 1 (c' := (if (x73 (fun i => p (31 + i)) v5 J) = 0 then 62 else 44, [(0, .ref (p 28)), (1, .int v1), (2, .int v2), (3, .int v3), (4, .int v4), (5, .int v5), (6, .int v6)], [], me_w M J)) rfl k
        by_cases h41 : (x73 (fun i => p (31 + i)) v5 J) = 0
        · rw [if_pos h41] at k
          have k := ly_revb 4 (c' := (if (Int32.ofInt 0) = 0 then 112 else 70, [(6, .int (Int32.ofInt 0)), (0, .ref (p 28)), (1, .int v1), (2, .int v2), (3, .int v3), (4, .int v4), (5, .int v5)], [], me_w M J)) rfl k
          rw [if_pos (show (Int32.ofInt 0) = 0 from by decide)] at k
          have k := ly_revb 2 (c' := (6, [(5, .int (v5 + (Int32.ofInt 1))), (6, .int (Int32.ofInt 0)), (0, .ref (p 28)), (1, .int v1), (2, .int v2), (3, .int v3), (4, .int v4)], [], me_w M J)) rfl k
          have k := nt_rn_w (a := [(5, .int (v5 + (Int32.ofInt 1))), (6, .int (Int32.ofInt 0)), (0, .ref (p 28)), (1, .int v1), (2, .int v2), (3, .int v3), (4, .int v4)]) (b := [(0, .ref (p 28)), (1, .int v1), (2, .int v2), (3, .int v3), (4, .int v4), (5, .int (v5 + (Int32.ofInt 1))), (6, .int (Int32.ofInt 0))]) ⟨rfl, rfl, rfl, rfl, rfl, rfl, rfl, trivial⟩ rfl k
          have k := ih v4 (v5 + (Int32.ofInt 1)) (Int32.ofInt 0) (lx_dec h15 hc) k
          rw [k, x23_6, if_neg h15, if_pos h29, if_pos h41]
        · rw [if_neg h41] at k
          have k := ly_revb 1 (c' := (45, [(0, .ref (p 28)), (1, .int v1), (2, .int v2), (3, .int v3), (4, .int v4), (5, .int v5), (6, .int v6)], [.ref (p 28)], me_w M J)) rfl k
          have k := lz_get (a := (p 28)) (g := 100) (M := me_w M J) (v := .ref (p 31)) rfl (nt_gfR rfl hv.1) k
          have k := lz_get (a := (p 31)) (g := 610) (M := me_w M J) (v := .ref (p 44)) rfl (nt_gfR rfl (hn.1 (0, 10, 13) (by decide))) k
          have k := ly_revb 1 (c' := (53, [(0, .ref (p 28)), (1, .int v1), (2, .int v2), (3, .int v3), (4, .int v4), (5, .int v5), (6, .int v6)], [.int v5, .ref (p 44)], me_w M J)) rfl k
          have k := mx_iald (v := J (p 44) v5.toNatClampNeg) rfl (hp.2.2.1 44 (by omega)) (rfl) k
          have k := ly_revb 2 (c' := (if (J (p 44) v5.toNatClampNeg) < v2 then 62 else 58, [(0, .ref (p 28)), (1, .int v1), (2, .int v2), (3, .int v3), (4, .int v4), (5, .int v5), (6, .int v6)], [], me_w M J)) rfl k
          by_cases h55 : (J (p 44) v5.toNatClampNeg) < v2
          · rw [if_pos h55] at k
            have k := ly_revb 4 (c' := (if (Int32.ofInt 0) = 0 then 112 else 70, [(6, .int (Int32.ofInt 0)), (0, .ref (p 28)), (1, .int v1), (2, .int v2), (3, .int v3), (4, .int v4), (5, .int v5)], [], me_w M J)) rfl k
            rw [if_pos (show (Int32.ofInt 0) = 0 from by decide)] at k
            have k := ly_revb 2 (c' := (6, [(5, .int (v5 + (Int32.ofInt 1))), (6, .int (Int32.ofInt 0)), (0, .ref (p 28)), (1, .int v1), (2, .int v2), (3, .int v3), (4, .int v4)], [], me_w M J)) rfl k
            have k := nt_rn_w (a := [(5, .int (v5 + (Int32.ofInt 1))), (6, .int (Int32.ofInt 0)), (0, .ref (p 28)), (1, .int v1), (2, .int v2), (3, .int v3), (4, .int v4)]) (b := [(0, .ref (p 28)), (1, .int v1), (2, .int v2), (3, .int v3), (4, .int v4), (5, .int (v5 + (Int32.ofInt 1))), (6, .int (Int32.ofInt 0))]) ⟨rfl, rfl, rfl, rfl, rfl, rfl, rfl, trivial⟩ rfl k
            have k := ih v4 (v5 + (Int32.ofInt 1)) (Int32.ofInt 0) (lx_dec h15 hc) k
            rw [k, x23_6, if_neg h15, if_pos h29, if_neg h41, if_pos h55]
          · rw [if_neg h55] at k
            have k := ly_revb 5 (c' := (if (Int32.ofInt 1) = 0 then 112 else 70, [(6, .int (Int32.ofInt 1)), (0, .ref (p 28)), (1, .int v1), (2, .int v2), (3, .int v3), (4, .int v4), (5, .int v5)], [], me_w M J)) rfl k
            rw [if_neg (show ¬ ((Int32.ofInt 1) = 0) from by decide)] at k
            have k := ly_revb 2 (c' := (73, [(6, .int (Int32.ofInt 1)), (0, .ref (p 28)), (1, .int v1), (2, .int v2), (3, .int v3), (4, .int v4), (5, .int v5)], [.int v5, .int v3], me_w M J)) rfl k
            obtain ⟨d1, o1, ed, kc, k⟩ := lz_c (g := 14) (q := 0) (vs := [.int v3, .int v5]) (rest := []) rfl rfl (by decide) (Or.inl ⟨_, rfl, rfl⟩) rfl k
            have e1 := xt14  kc
            subst e1
            have k : nt_rn X _ 23 (76, [(6, .int (Int32.ofInt 1)), (0, .ref (p 28)), (1, .int v1), (2, .int v2), (3, .int v3), (4, .int v4), (5, .int v5)], [.int (x14 v3 v5)], me_w M J) _ := k
            have k := ly_revb 1 (c' := (if (x14 v3 v5) = 0 then 79 else 112, [(6, .int (Int32.ofInt 1)), (0, .ref (p 28)), (1, .int v1), (2, .int v2), (3, .int v3), (4, .int v4), (5, .int v5)], [], me_w M J)) rfl k
            by_cases h76 : (x14 v3 v5) = 0
            · rw [if_pos h76] at k
              have k := ly_revb 3 (c' := (if v4 = (Int32.ofInt (-1)) then 108 else 85, [(6, .int (Int32.ofInt 1)), (0, .ref (p 28)), (1, .int v1), (2, .int v2), (3, .int v3), (4, .int v4), (5, .int v5)], [], me_w M J)) rfl k
              by_cases h82 : v4 = (Int32.ofInt (-1))
              · rw [if_pos h82] at k
                have k := ly_revb 4 (c' := (6, [(5, .int (v5 + (Int32.ofInt 1))), (4, .int v5), (6, .int (Int32.ofInt 1)), (0, .ref (p 28)), (1, .int v1), (2, .int v2), (3, .int v3)], [], me_w M J)) rfl k
                have k := nt_rn_w (a := [(5, .int (v5 + (Int32.ofInt 1))), (4, .int v5), (6, .int (Int32.ofInt 1)), (0, .ref (p 28)), (1, .int v1), (2, .int v2), (3, .int v3)]) (b := [(0, .ref (p 28)), (1, .int v1), (2, .int v2), (3, .int v3), (4, .int v5), (5, .int (v5 + (Int32.ofInt 1))), (6, .int (Int32.ofInt 1))]) ⟨rfl, rfl, rfl, rfl, rfl, rfl, rfl, trivial⟩ rfl k
                have k := ih v5 (v5 + (Int32.ofInt 1)) (Int32.ofInt 1) (lx_dec h15 hc) k
                rw [k, x23_6, if_neg h15, if_pos h29, if_neg h41, if_neg h55, if_pos h76, if_pos h82]
              · rw [if_neg h82] at k
                have k := ly_revb 1 (c' := (86, [(6, .int (Int32.ofInt 1)), (0, .ref (p 28)), (1, .int v1), (2, .int v2), (3, .int v3), (4, .int v4), (5, .int v5)], [.ref (p 28)], me_w M J)) rfl k
                have k := lz_get (a := (p 28)) (g := 100) (M := me_w M J) (v := .ref (p 31)) rfl (nt_gfR rfl hv.1) k
                have k := lz_get (a := (p 31)) (g := 610) (M := me_w M J) (v := .ref (p 44)) rfl (nt_gfR rfl (hn.1 (0, 10, 13) (by decide))) k
                have k := ly_revb 1 (c' := (94, [(6, .int (Int32.ofInt 1)), (0, .ref (p 28)), (1, .int v1), (2, .int v2), (3, .int v3), (4, .int v4), (5, .int v5)], [.int v5, .ref (p 44)], me_w M J)) rfl k
                have k := mx_iald (v := J (p 44) v5.toNatClampNeg) rfl (hp.2.2.1 44 (by omega)) (rfl) k
                have k := ly_revb 1 (c' := (96, [(6, .int (Int32.ofInt 1)), (0, .ref (p 28)), (1, .int v1), (2, .int v2), (3, .int v3), (4, .int v4), (5, .int v5)], [.ref (p 28), .int (J (p 44) v5.toNatClampNeg)], me_w M J)) rfl k
                have k := lz_get (a := (p 28)) (g := 100) (M := me_w M J) (v := .ref (p 31)) rfl (nt_gfR rfl hv.1) k
                have k := lz_get (a := (p 31)) (g := 610) (M := me_w M J) (v := .ref (p 44)) rfl (nt_gfR rfl (hn.1 (0, 10, 13) (by decide))) k
                have k := ly_revb 1 (c' := (104, [(6, .int (Int32.ofInt 1)), (0, .ref (p 28)), (1, .int v1), (2, .int v2), (3, .int v3), (4, .int v4), (5, .int v5)], [.int v4, .ref (p 44), .int (J (p 44) v5.toNatClampNeg)], me_w M J)) rfl k
                have k := mx_iald (v := J (p 44) v4.toNatClampNeg) rfl (hp.2.2.1 44 (by omega)) (rfl) k
                have k := ly_revb 1 (c' := (if (J (p 44) v4.toNatClampNeg) ≤ (J (p 44) v5.toNatClampNeg) then 112 else 108, [(6, .int (Int32.ofInt 1)), (0, .ref (p 28)), (1, .int v1), (2, .int v2), (3, .int v3), (4, .int v4), (5, .int v5)], [], me_w M J)) rfl k
                by_cases h105 : (J (p 44) v4.toNatClampNeg) ≤ (J (p 44) v5.toNatClampNeg)
                · rw [if_pos h105] at k
                  have k := ly_revb 2 (c' := (6, [(5, .int (v5 + (Int32.ofInt 1))), (6, .int (Int32.ofInt 1)), (0, .ref (p 28)), (1, .int v1), (2, .int v2), (3, .int v3), (4, .int v4)], [], me_w M J)) rfl k
                  have k := nt_rn_w (a := [(5, .int (v5 + (Int32.ofInt 1))), (6, .int (Int32.ofInt 1)), (0, .ref (p 28)), (1, .int v1), (2, .int v2), (3, .int v3), (4, .int v4)]) (b := [(0, .ref (p 28)), (1, .int v1), (2, .int v2), (3, .int v3), (4, .int v4), (5, .int (v5 + (Int32.ofInt 1))), (6, .int (Int32.ofInt 1))]) ⟨rfl, rfl, rfl, rfl, rfl, rfl, rfl, trivial⟩ rfl k
                  have k := ih v4 (v5 + (Int32.ofInt 1)) (Int32.ofInt 1) (lx_dec h15 hc) k
                  rw [k, x23_6, if_neg h15, if_pos h29, if_neg h41, if_neg h55, if_pos h76, if_neg h82, if_pos h105]
                · rw [if_neg h105] at k
                  have k := ly_revb 4 (c' := (6, [(5, .int (v5 + (Int32.ofInt 1))), (4, .int v5), (6, .int (Int32.ofInt 1)), (0, .ref (p 28)), (1, .int v1), (2, .int v2), (3, .int v3)], [], me_w M J)) rfl k
                  have k := nt_rn_w (a := [(5, .int (v5 + (Int32.ofInt 1))), (4, .int v5), (6, .int (Int32.ofInt 1)), (0, .ref (p 28)), (1, .int v1), (2, .int v2), (3, .int v3)]) (b := [(0, .ref (p 28)), (1, .int v1), (2, .int v2), (3, .int v3), (4, .int v5), (5, .int (v5 + (Int32.ofInt 1))), (6, .int (Int32.ofInt 1))]) ⟨rfl, rfl, rfl, rfl, rfl, rfl, rfl, trivial⟩ rfl k
                  have k := ih v5 (v5 + (Int32.ofInt 1)) (Int32.ofInt 1) (lx_dec h15 hc) k
                  rw [k, x23_6, if_neg h15, if_pos h29, if_neg h41, if_neg h55, if_pos h76, if_neg h82, if_neg h105]
            · rw [if_neg h76] at k
              have k := ly_revb 2 (c' := (6, [(5, .int (v5 + (Int32.ofInt 1))), (6, .int (Int32.ofInt 1)), (0, .ref (p 28)), (1, .int v1), (2, .int v2), (3, .int v3), (4, .int v4)], [], me_w M J)) rfl k
              have k := nt_rn_w (a := [(5, .int (v5 + (Int32.ofInt 1))), (6, .int (Int32.ofInt 1)), (0, .ref (p 28)), (1, .int v1), (2, .int v2), (3, .int v3), (4, .int v4)]) (b := [(0, .ref (p 28)), (1, .int v1), (2, .int v2), (3, .int v3), (4, .int v4), (5, .int (v5 + (Int32.ofInt 1))), (6, .int (Int32.ofInt 1))]) ⟨rfl, rfl, rfl, rfl, rfl, rfl, rfl, trivial⟩ rfl k
              have k := ih v4 (v5 + (Int32.ofInt 1)) (Int32.ofInt 1) (lx_dec h15 hc) k
              rw [k, x23_6, if_neg h15, if_pos h29, if_neg h41, if_neg h55, if_neg h76]
      · rw [if_neg h29] at k
        have k := ly_revb 4 (c' := (if (Int32.ofInt 0) = 0 then 112 else 70, [(6, .int (Int32.ofInt 0)), (0, .ref (p 28)), (1, .int v1), (2, .int v2), (3, .int v3), (4, .int v4), (5, .int v5)], [], me_w M J)) rfl k
        rw [if_pos (show (Int32.ofInt 0) = 0 from by decide)] at k
        have k := ly_revb 2 (c' := (6, [(5, .int (v5 + (Int32.ofInt 1))), (6, .int (Int32.ofInt 0)), (0, .ref (p 28)), (1, .int v1), (2, .int v2), (3, .int v3), (4, .int v4)], [], me_w M J)) rfl k
        have k := nt_rn_w (a := [(5, .int (v5 + (Int32.ofInt 1))), (6, .int (Int32.ofInt 0)), (0, .ref (p 28)), (1, .int v1), (2, .int v2), (3, .int v3), (4, .int v4)]) (b := [(0, .ref (p 28)), (1, .int v1), (2, .int v2), (3, .int v3), (4, .int v4), (5, .int (v5 + (Int32.ofInt 1))), (6, .int (Int32.ofInt 0))]) ⟨rfl, rfl, rfl, rfl, rfl, rfl, rfl, trivial⟩ rfl k
        have k := ih v4 (v5 + (Int32.ofInt 1)) (Int32.ofInt 0) (lx_dec h15 hc) k
        rw [k, x23_6, if_neg h15, if_neg h29]
theorem x23_6_rule {p : Nat → Nat} {v1 : Int32} {v2 : Int32} {v3 : Int32} {J : Nat → Nat → Int32} {I : Nat → Int32 → Int32 → Prop} {Q : Int32 → Prop} (h0 : ∀ (v4 : Int32) (v5 : Int32), I 0 v4 v5 → Q v4) (h1 : ∀ (c : Nat) (v4 : Int32) (v5 : Int32), I (c + 1) v4 v5 →
    if (J (p 32) 2) ≤ v5 then (Q v4)
    else if (J (p 34) v5.toNatClampNeg) = v1 then if (x73 (fun i => p (31 + i)) v5 J) = 0 then (I c v4 (v5 + (Int32.ofInt 1)))
        else if (J (p 44) v5.toNatClampNeg) < v2 then (I c v4 (v5 + (Int32.ofInt 1)))
          else if (x14 v3 v5) = 0 then if v4 = (Int32.ofInt (-1)) then (I c v5 (v5 + (Int32.ofInt 1)))
              else if (J (p 44) v4.toNatClampNeg) ≤ (J (p 44) v5.toNatClampNeg) then (I c v4 (v5 + (Int32.ofInt 1)))
                else (I c v5 (v5 + (Int32.ofInt 1)))
            else (I c v4 (v5 + (Int32.ofInt 1)))
      else (I c v4 (v5 + (Int32.ofInt 1)))) : ∀ (c : Nat) (v4 : Int32) (v5 : Int32), I c v4 v5 → Q (x23_6 p v1 v2 v3 J c v4 v5) := by
  intro c
  induction c with
  | zero =>
    intro v4 v5 hi
    rw [x23_6]
    exact h0 v4 v5 hi
  | succ c ih =>
    intro v4 v5 hi
    have hi := h1 c v4 v5 hi
    rw [x23_6]
    by_cases h : (J (p 32) 2) ≤ v5
    · rw [if_pos h] at hi ⊢
      exact hi
    · rw [if_neg h] at hi ⊢
      by_cases h : (J (p 34) v5.toNatClampNeg) = v1
      · rw [if_pos h] at hi ⊢
        by_cases h : (x73 (fun i => p (31 + i)) v5 J) = 0
        · rw [if_pos h] at hi ⊢
          exact ih _ _ hi
        · rw [if_neg h] at hi ⊢
          by_cases h : (J (p 44) v5.toNatClampNeg) < v2
          · rw [if_pos h] at hi ⊢
            exact ih _ _ hi
          · rw [if_neg h] at hi ⊢
            by_cases h : (x14 v3 v5) = 0
            · rw [if_pos h] at hi ⊢
              by_cases h : v4 = (Int32.ofInt (-1))
              · rw [if_pos h] at hi ⊢
                exact ih _ _ hi
              · rw [if_neg h] at hi ⊢
                by_cases h : (J (p 44) v4.toNatClampNeg) ≤ (J (p 44) v5.toNatClampNeg)
                · rw [if_pos h] at hi ⊢
                  exact ih _ _ hi
                · rw [if_neg h] at hi ⊢
                  exact ih _ _ hi
            · rw [if_neg h] at hi ⊢
              exact ih _ _ hi
      · rw [if_neg h] at hi ⊢
        exact ih _ _ hi
def x23 (p : Nat → Nat) (v1 : Int32) (v2 : Int32) (v3 : Int32) (J : Nat → Nat → Int32) : Int32 := (x23_6 p v1 v2 v3 J ((J (p 32) 2).toNatClampNeg) (Int32.ofInt (-1)) (Int32.ofInt 0))
theorem xt23 {X : nt_X} {d : Nat} {M : nt_M} {o : Option Value × nt_M} {p : Nat → Nat} {v1 : Int32} {v2 : Int32} {v3 : Int32} {J : Nat → Nat → Int32} (hp : xs_P M p) (hn : xs_Q M (fun i => p (31 + i))) (hv : xs_V M p) (k : nt_ev X d 23 [.ref (p 28), .int v1, .int v2, .int v3] (me_w M J) o) : o = (some (.int (x23 p v1 v2 v3 J)), me_w M J) := by
  have k : nt_rn X d 23 (0, [(0, .ref (p 28)), (1, .int v1), (2, .int v2), (3, .int v3)], [], me_w M J) o := k
  have k := ly_revb 4 (c' := (6, [(5, .int (Int32.ofInt 0)), (4, .int (Int32.ofInt (-1))), (0, .ref (p 28)), (1, .int v1), (2, .int v2), (3, .int v3)], [], me_w M J)) rfl k
  have k := nt_rn_w (a := [(5, .int (Int32.ofInt 0)), (4, .int (Int32.ofInt (-1))), (0, .ref (p 28)), (1, .int v1), (2, .int v2), (3, .int v3)]) (b := [(0, .ref (p 28)), (1, .int v1), (2, .int v2), (3, .int v3), (4, .int (Int32.ofInt (-1))), (5, .int (Int32.ofInt 0)), (6, .int (Int32.ofInt 0))]) ⟨rfl, rfl, rfl, rfl, rfl, rfl, trivial⟩ rfl k
  have k := xt23_6 hp hn hv  ((J (p 32) 2).toNatClampNeg) (Int32.ofInt (-1)) (Int32.ofInt 0) (Int32.ofInt 0) (lx_beg (by decide)) k
  rw [k, x23]
/-! .most -/
def x117F (p : Nat → Nat) (v1 : Int32) (J : Nat → Nat → Int32) : Int32 := if v1 = 0 then (x20 p (x19 p J) J)
  else (x19 p J)
theorem xt117F {X : nt_X} {d : Nat} {M : nt_M} {o : Option Value × nt_M} {p : Nat → Nat} {v1 : Int32} {J : Nat → Nat → Int32} (hp : xs_P M p) (hn : xs_Q M (fun i => p (31 + i))) (hv : xs_V M p) (k : nt_rn X d 117 (32, [(0, .ref (p 16)), (1, .int v1)], [], me_w M J) o) : o = (some (.int (x117F p v1 J)), me_w M J) := by
  have k : nt_rn X d 117 (32, [(0, .ref (p 16)), (1, .int v1)], [], me_w M J) o := k
  have k := ly_revb 1 (c' := (33, [(0, .ref (p 16)), (1, .int v1)], [.ref (p 16)], me_w M J)) rfl k
  have k := lz_get (a := (p 16)) (g := 1006) (M := me_w M J) (v := .ref (p 28)) rfl (nt_gfR rfl (hp.1 (16, 6, 28) (by decide))) k
  obtain ⟨d1, o1, ed, kc, k⟩ := lz_c (g := 19) (q := 1) (vs := [.ref (p 28)]) (rest := []) rfl rfl (by decide) (Or.inr (Or.inl ⟨_, rfl, rfl⟩)) rfl k
  have e1 := xt19 hp hn hv kc
  subst e1
  have k : nt_rn X _ 117 (39, [(0, .ref (p 16)), (1, .int v1)], [.int (x19 p J)], me_w M J) _ := k
  have k := ly_revb 3 (c' := (if v1 = 0 then 44 else 55, [(2, .int (x19 p J)), (0, .ref (p 16)), (1, .int v1)], [], me_w M J)) rfl k
  by_cases h41 : v1 = 0
  · rw [if_pos h41] at k
    have k := ly_revb 1 (c' := (45, [(2, .int (x19 p J)), (0, .ref (p 16)), (1, .int v1)], [.ref (p 16)], me_w M J)) rfl k
    have k := lz_get (a := (p 16)) (g := 1006) (M := me_w M J) (v := .ref (p 28)) rfl (nt_gfR rfl (hp.1 (16, 6, 28) (by decide))) k
    have k := ly_revb 1 (c' := (49, [(2, .int (x19 p J)), (0, .ref (p 16)), (1, .int v1)], [.int (x19 p J), .ref (p 28)], me_w M J)) rfl k
    obtain ⟨d1, o1, ed, kc, k⟩ := lz_c (g := 20) (q := 1) (vs := [.ref (p 28), .int (x19 p J)]) (rest := []) rfl rfl (by decide) (Or.inr (Or.inl ⟨_, rfl, rfl⟩)) rfl k
    have e1 := xt20 hp hn hv kc
    subst e1
    have k : nt_rn X _ 117 (52, [(2, .int (x19 p J)), (0, .ref (p 16)), (1, .int v1)], [.int (x20 p (x19 p J) J)], me_w M J) _ := k
    have k := ly_revb 1 (c' := (56, [(2, .int (x19 p J)), (0, .ref (p 16)), (1, .int v1)], [.int (x20 p (x19 p J) J)], me_w M J)) rfl k
    have k := lz_ri rfl (by decide) k
    rw [k, x117F, if_pos h41]
  · rw [if_neg h41] at k
    have k := ly_revb 1 (c' := (56, [(2, .int (x19 p J)), (0, .ref (p 16)), (1, .int v1)], [.int (x19 p J)], me_w M J)) rfl k
    have k := lz_ri rfl (by decide) k
    rw [k, x117F, if_neg h41]
/-! .dealt -/
def x122F (p : Nat → Nat) (v1 : Int32) (J : Nat → Nat → Int32) : Int32 := if v1 = 0 then (x25 p (x24 p J) J)
  else (x24 p J)
theorem xt122F {X : nt_X} {d : Nat} {M : nt_M} {o : Option Value × nt_M} {p : Nat → Nat} {v1 : Int32} {J : Nat → Nat → Int32} (hp : xs_P M p) (hn : xs_Q M (fun i => p (31 + i))) (hv : xs_V M p) (k : nt_rn X d 122 (32, [(0, .ref (p 16)), (1, .int v1)], [], me_w M J) o) : o = (some (.int (x122F p v1 J)), me_w M J) := by
  have k : nt_rn X d 122 (32, [(0, .ref (p 16)), (1, .int v1)], [], me_w M J) o := k
  have k := ly_revb 1 (c' := (33, [(0, .ref (p 16)), (1, .int v1)], [.ref (p 16)], me_w M J)) rfl k
  have k := lz_get (a := (p 16)) (g := 1006) (M := me_w M J) (v := .ref (p 28)) rfl (nt_gfR rfl (hp.1 (16, 6, 28) (by decide))) k
  obtain ⟨d1, o1, ed, kc, k⟩ := lz_c (g := 24) (q := 1) (vs := [.ref (p 28)]) (rest := []) rfl rfl (by decide) (Or.inr (Or.inl ⟨_, rfl, rfl⟩)) rfl k
  have e1 := xt24 hp hn hv kc
  subst e1
  have k : nt_rn X _ 122 (39, [(0, .ref (p 16)), (1, .int v1)], [.int (x24 p J)], me_w M J) _ := k
  have k := ly_revb 3 (c' := (if v1 = 0 then 44 else 55, [(2, .int (x24 p J)), (0, .ref (p 16)), (1, .int v1)], [], me_w M J)) rfl k
  by_cases h41 : v1 = 0
  · rw [if_pos h41] at k
    have k := ly_revb 1 (c' := (45, [(2, .int (x24 p J)), (0, .ref (p 16)), (1, .int v1)], [.ref (p 16)], me_w M J)) rfl k
    have k := lz_get (a := (p 16)) (g := 1006) (M := me_w M J) (v := .ref (p 28)) rfl (nt_gfR rfl (hp.1 (16, 6, 28) (by decide))) k
    have k := ly_revb 1 (c' := (49, [(2, .int (x24 p J)), (0, .ref (p 16)), (1, .int v1)], [.int (x24 p J), .ref (p 28)], me_w M J)) rfl k
    obtain ⟨d1, o1, ed, kc, k⟩ := lz_c (g := 25) (q := 1) (vs := [.ref (p 28), .int (x24 p J)]) (rest := []) rfl rfl (by decide) (Or.inr (Or.inl ⟨_, rfl, rfl⟩)) rfl k
    have e1 := xt25 hp hn hv kc
    subst e1
    have k : nt_rn X _ 122 (52, [(2, .int (x24 p J)), (0, .ref (p 16)), (1, .int v1)], [.int (x25 p (x24 p J) J)], me_w M J) _ := k
    have k := ly_revb 1 (c' := (56, [(2, .int (x24 p J)), (0, .ref (p 16)), (1, .int v1)], [.int (x25 p (x24 p J) J)], me_w M J)) rfl k
    have k := lz_ri rfl (by decide) k
    rw [k, x122F, if_pos h41]
  · rw [if_neg h41] at k
    have k := ly_revb 1 (c' := (56, [(2, .int (x24 p J)), (0, .ref (p 16)), (1, .int v1)], [.int (x24 p J)], me_w M J)) rfl k
    have k := lz_ri rfl (by decide) k
    rw [k, x122F, if_neg h41]
end
section
/-! Model.isOf -/
def x209 (v0 : Int32) (v1 : Int32) : Int32 := if ((v0 >>> (v1 &&& 31)) &&& (Int32.ofInt 1)) = (Int32.ofInt 1) then (Int32.ofInt 1)
  else (Int32.ofInt 0)
theorem xt209 {X : nt_X} {d : Nat} {M : nt_M} {o : Option Value × nt_M} {v0 : Int32} {v1 : Int32} {J : Nat → Nat → Int32}  (k : nt_ev X d 209 [.int v0, .int v1] (me_w M J) o) : o = (some (.int (x209 v0 v1)), me_w M J) := by
  have k : nt_rn X d 209 (0, [(0, .int v0), (1, .int v1)], [], me_w M J) o := k
  have k := ly_revb 7 (c' := (if ((v0 >>> (v1 &&& 31)) &&& (Int32.ofInt 1)) = (Int32.ofInt 1) then 9 else 13, [(0, .int v0), (1, .int v1)], [], me_w M J)) rfl k
  by_cases h6 : ((v0 >>> (v1 &&& 31)) &&& (Int32.ofInt 1)) = (Int32.ofInt 1)
  · rw [if_pos h6] at k
    have k := ly_revb 2 (c' := (14, [(0, .int v0), (1, .int v1)], [.int (Int32.ofInt 1)], me_w M J)) rfl k
    have k := lz_ri rfl (by decide) k
    rw [k, x209, if_pos h6]
  · rw [if_neg h6] at k
    have k := ly_revb 1 (c' := (14, [(0, .int v0), (1, .int v1)], [.int (Int32.ofInt 0)], me_w M J)) rfl k
    have k := lz_ri rfl (by decide) k
    rw [k, x209, if_neg h6]
/-! Model.isOn -/
def x208 (p : Nat → Nat) (v1 : Int32) (v2 : Int32) (v3 : Int32) (J : Nat → Nat → Int32) : Int32 := if (x209 v1 v2) = 0 then (Int32.ofInt 0)
  else if v3 < (x180 p v2 (Int32.ofInt 1) J) then (Int32.ofInt 0)
    else if (x180 p v2 (Int32.ofInt 2) J) ≤ v3 then (Int32.ofInt 0)
      else (Int32.ofInt 1)
theorem xt208 {X : nt_X} {d : Nat} {M : nt_M} {o : Option Value × nt_M} {p : Nat → Nat} {v1 : Int32} {v2 : Int32} {v3 : Int32} {J : Nat → Nat → Int32} (hp : xs_P M p) (k : nt_ev X d 208 [.ref (p 0), .int v1, .int v2, .int v3] (me_w M J) o) : o = (some (.int (x208 p v1 v2 v3 J)), me_w M J) := by
  have k : nt_rn X d 208 (0, [(0, .ref (p 0)), (1, .int v1), (2, .int v2), (3, .int v3)], [], me_w M J) o := k
  have k := ly_revb 2 (c' := (2, [(0, .ref (p 0)), (1, .int v1), (2, .int v2), (3, .int v3)], [.int v2, .int v1], me_w M J)) rfl k
  obtain ⟨d1, o1, ed, kc, k⟩ := lz_c (g := 209) (q := 0) (vs := [.int v1, .int v2]) (rest := []) rfl rfl (by decide) (Or.inl ⟨_, rfl, rfl⟩) rfl k
  have e1 := xt209  kc
  subst e1
  have k : nt_rn X _ 208 (5, [(0, .ref (p 0)), (1, .int v1), (2, .int v2), (3, .int v3)], [.int (x209 v1 v2)], me_w M J) _ := k
  have k := ly_revb 1 (c' := (if (x209 v1 v2) = 0 then 32 else 8, [(0, .ref (p 0)), (1, .int v1), (2, .int v2), (3, .int v3)], [], me_w M J)) rfl k
  by_cases h5 : (x209 v1 v2) = 0
  · rw [if_pos h5] at k
    have k := ly_revb 1 (c' := (33, [(0, .ref (p 0)), (1, .int v1), (2, .int v2), (3, .int v3)], [.int (Int32.ofInt 0)], me_w M J)) rfl k
    have k := lz_ri rfl (by decide) k
    rw [k, x208, if_pos h5]
  · rw [if_neg h5] at k
    have k := ly_revb 3 (c' := (11, [(0, .ref (p 0)), (1, .int v1), (2, .int v2), (3, .int v3)], [.int (Int32.ofInt 1), .int v2, .ref (p 0)], me_w M J)) rfl k
    obtain ⟨d1, o1, ed, kc, k⟩ := lz_c (g := 180) (q := 1) (vs := [.ref (p 0), .int v2, .int (Int32.ofInt 1)]) (rest := []) rfl rfl (by decide) (Or.inr (Or.inl ⟨_, rfl, rfl⟩)) rfl k
    have e1 := xt180 hp kc
    subst e1
    have k : nt_rn X _ 208 (14, [(0, .ref (p 0)), (1, .int v1), (2, .int v2), (3, .int v3)], [.int (x180 p v2 (Int32.ofInt 1) J)], me_w M J) _ := k
    have k := ly_revb 2 (c' := (if v3 < (x180 p v2 (Int32.ofInt 1) J) then 32 else 18, [(0, .ref (p 0)), (1, .int v1), (2, .int v2), (3, .int v3)], [], me_w M J)) rfl k
    by_cases h15 : v3 < (x180 p v2 (Int32.ofInt 1) J)
    · rw [if_pos h15] at k
      have k := ly_revb 1 (c' := (33, [(0, .ref (p 0)), (1, .int v1), (2, .int v2), (3, .int v3)], [.int (Int32.ofInt 0)], me_w M J)) rfl k
      have k := lz_ri rfl (by decide) k
      rw [k, x208, if_neg h5, if_pos h15]
    · rw [if_neg h15] at k
      have k := ly_revb 4 (c' := (22, [(0, .ref (p 0)), (1, .int v1), (2, .int v2), (3, .int v3)], [.int (Int32.ofInt 2), .int v2, .ref (p 0), .int v3], me_w M J)) rfl k
      obtain ⟨d1, o1, ed, kc, k⟩ := lz_c (g := 180) (q := 1) (vs := [.ref (p 0), .int v2, .int (Int32.ofInt 2)]) (rest := [.int v3]) rfl rfl (by decide) (Or.inr (Or.inl ⟨_, rfl, rfl⟩)) rfl k
      have e1 := xt180 hp kc
      subst e1
      have k : nt_rn X _ 208 (25, [(0, .ref (p 0)), (1, .int v1), (2, .int v2), (3, .int v3)], [.int (x180 p v2 (Int32.ofInt 2) J), .int v3], me_w M J) _ := k
      have k := ly_revb 1 (c' := (if (x180 p v2 (Int32.ofInt 2) J) ≤ v3 then 32 else 28, [(0, .ref (p 0)), (1, .int v1), (2, .int v2), (3, .int v3)], [], me_w M J)) rfl k
      by_cases h25 : (x180 p v2 (Int32.ofInt 2) J) ≤ v3
      · rw [if_pos h25] at k
        have k := ly_revb 1 (c' := (33, [(0, .ref (p 0)), (1, .int v1), (2, .int v2), (3, .int v3)], [.int (Int32.ofInt 0)], me_w M J)) rfl k
        have k := lz_ri rfl (by decide) k
        rw [k, x208, if_neg h5, if_neg h15, if_pos h25]
      · rw [if_neg h25] at k
        have k := ly_revb 2 (c' := (33, [(0, .ref (p 0)), (1, .int v1), (2, .int v2), (3, .int v3)], [.int (Int32.ofInt 1)], me_w M J)) rfl k
        have k := lz_ri rfl (by decide) k
        rw [k, x208, if_neg h5, if_neg h15, if_neg h25]
/-! Model.notLost -/
def x210_4 (p : Nat → Nat) (v1 : Int32) (J : Nat → Nat → Int32) : Nat → Int32 → Int32 → Int32
  | 0, v2, v3 => v2
  | c + 1, v2, v3 => if (J (p 4) 2) ≤ v3 then v2
    else if (x173 p v3 (Int32.ofInt 0) J) = v1 then if (x173 p v3 (Int32.ofInt 4) J) = 0 then (x210_4 p v1 J c (v2 + (Int32.ofInt 1)) (v3 + (Int32.ofInt 1)))
        else (x210_4 p v1 J c (v2 + (Int32.ofInt 0)) (v3 + (Int32.ofInt 1)))
      else (x210_4 p v1 J c (v2 + (Int32.ofInt 0)) (v3 + (Int32.ofInt 1)))
theorem xt210_4 {X : nt_X} {d : Nat} {M : nt_M} {o : Option Value × nt_M} {p : Nat → Nat} {v1 : Int32} {J : Nat → Nat → Int32} (hp : xs_P M p) : ∀ (c : Nat) (v2 : Int32) (v3 : Int32), (J (p 4) 2).toInt - v3.toInt ≤ c → nt_rn X d 210 (4, [(0, .ref (p 0)), (1, .int v1), (2, .int v2), (3, .int v3)], [], me_w M J) o → o = (some (.int (x210_4 p v1 J c v2 v3)), me_w M J) := by
  intro c
  induction c with
  | zero =>
    intro v2 v3 hc k
    have k := ly_revb 2 (c' := (6, [(0, .ref (p 0)), (1, .int v1), (2, .int v2), (3, .int v3)], [.ref (p 0), .int v3], me_w M J)) rfl k
    have k := lz_get (a := (p 0)) (g := 1127) (M := me_w M J) (v := .ref (p 4)) rfl (nt_gfR rfl (hp.1 (0, 27, 4) (by decide))) k
    have k := ly_revb 1 (c' := (10, [(0, .ref (p 0)), (1, .int v1), (2, .int v2), (3, .int v3)], [.int (Int32.ofInt 2), .ref (p 4), .int v3], me_w M J)) rfl k
    have k := mx_iald (v := J (p 4) 2) rfl (hp.2.2.1 4 (by omega)) ((congrArg (J (p 4)) (show (Int32.ofInt 2).toNatClampNeg = 2 from rfl)).trans (rfl)) k
    have k := ly_revb 1 (c' := (if (J (p 4) 2) ≤ v3 then 47 else 14, [(0, .ref (p 0)), (1, .int v1), (2, .int v2), (3, .int v3)], [], me_w M J)) rfl k
    have h11 : (J (p 4) 2) ≤ v3 := lx_end hc
    rw [if_pos h11] at k
    have k := ly_revb 1 (c' := (48, [(0, .ref (p 0)), (1, .int v1), (2, .int v2), (3, .int v3)], [.int v2], me_w M J)) rfl k
    have k := lz_ri rfl (by decide) k
    rw [k, x210_4]
  | succ c ih =>
    intro v2 v3 hc k
    have k := ly_revb 2 (c' := (6, [(0, .ref (p 0)), (1, .int v1), (2, .int v2), (3, .int v3)], [.ref (p 0), .int v3], me_w M J)) rfl k
    have k := lz_get (a := (p 0)) (g := 1127) (M := me_w M J) (v := .ref (p 4)) rfl (nt_gfR rfl (hp.1 (0, 27, 4) (by decide))) k
    have k := ly_revb 1 (c' := (10, [(0, .ref (p 0)), (1, .int v1), (2, .int v2), (3, .int v3)], [.int (Int32.ofInt 2), .ref (p 4), .int v3], me_w M J)) rfl k
    have k := mx_iald (v := J (p 4) 2) rfl (hp.2.2.1 4 (by omega)) ((congrArg (J (p 4)) (show (Int32.ofInt 2).toNatClampNeg = 2 from rfl)).trans (rfl)) k
    have k := ly_revb 1 (c' := (if (J (p 4) 2) ≤ v3 then 47 else 14, [(0, .ref (p 0)), (1, .int v1), (2, .int v2), (3, .int v3)], [], me_w M J)) rfl k
    by_cases h11 : (J (p 4) 2) ≤ v3
    · rw [if_pos h11] at k
      have k := ly_revb 1 (c' := (48, [(0, .ref (p 0)), (1, .int v1), (2, .int v2), (3, .int v3)], [.int v2], me_w M J)) rfl k
      have k := lz_ri rfl (by decide) k
      rw [k, x210_4, if_pos h11]
    · rw [if_neg h11] at k
      have k := ly_revb 4 (c' := (18, [(0, .ref (p 0)), (1, .int v1), (2, .int v2), (3, .int v3)], [.int (Int32.ofInt 0), .int v3, .ref (p 0), .int v2], me_w M J)) rfl k
      obtain ⟨d1, o1, ed, kc, k⟩ := lz_c (g := 173) (q := 1) (vs := [.ref (p 0), .int v3, .int (Int32.ofInt 0)]) (rest := [.int v2]) rfl rfl (by decide) (Or.inr (Or.inl ⟨_, rfl, rfl⟩)) rfl k
      have e1 := xt173 hp kc
      subst e1
      have k : nt_rn X _ 210 (21, [(0, .ref (p 0)), (1, .int v1), (2, .int v2), (3, .int v3)], [.int (x173 p v3 (Int32.ofInt 0) J), .int v2], me_w M J) _ := k
      have k := ly_revb 2 (c' := (if (x173 p v3 (Int32.ofInt 0) J) = v1 then 25 else 38, [(0, .ref (p 0)), (1, .int v1), (2, .int v2), (3, .int v3)], [.int v2], me_w M J)) rfl k
      by_cases h22 : (x173 p v3 (Int32.ofInt 0) J) = v1
      · rw [if_pos h22] at k
        have k := ly_revb 3 (c' := (28, [(0, .ref (p 0)), (1, .int v1), (2, .int v2), (3, .int v3)], [.int (Int32.ofInt 4), .int v3, .ref (p 0), .int v2], me_w M J)) rfl k
        obtain ⟨d1, o1, ed, kc, k⟩ := lz_c (g := 173) (q := 1) (vs := [.ref (p 0), .int v3, .int (Int32.ofInt 4)]) (rest := [.int v2]) rfl rfl (by decide) (Or.inr (Or.inl ⟨_, rfl, rfl⟩)) rfl k
        have e1 := xt173 hp kc
        subst e1
        have k : nt_rn X _ 210 (31, [(0, .ref (p 0)), (1, .int v1), (2, .int v2), (3, .int v3)], [.int (x173 p v3 (Int32.ofInt 4) J), .int v2], me_w M J) _ := k
        have k := ly_revb 1 (c' := (if (x173 p v3 (Int32.ofInt 4) J) = 0 then 34 else 38, [(0, .ref (p 0)), (1, .int v1), (2, .int v2), (3, .int v3)], [.int v2], me_w M J)) rfl k
        by_cases h31 : (x173 p v3 (Int32.ofInt 4) J) = 0
        · rw [if_pos h31] at k
          have k := ly_revb 6 (c' := (4, [(3, .int (v3 + (Int32.ofInt 1))), (2, .int (v2 + (Int32.ofInt 1))), (0, .ref (p 0)), (1, .int v1)], [], me_w M J)) rfl k
          have k := nt_rn_w (a := [(3, .int (v3 + (Int32.ofInt 1))), (2, .int (v2 + (Int32.ofInt 1))), (0, .ref (p 0)), (1, .int v1)]) (b := [(0, .ref (p 0)), (1, .int v1), (2, .int (v2 + (Int32.ofInt 1))), (3, .int (v3 + (Int32.ofInt 1)))]) ⟨rfl, rfl, rfl, rfl, trivial⟩ rfl k
          have k := ih (v2 + (Int32.ofInt 1)) (v3 + (Int32.ofInt 1)) (lx_dec h11 hc) k
          rw [k, x210_4, if_neg h11, if_pos h22, if_pos h31]
        · rw [if_neg h31] at k
          have k := ly_revb 5 (c' := (4, [(3, .int (v3 + (Int32.ofInt 1))), (2, .int (v2 + (Int32.ofInt 0))), (0, .ref (p 0)), (1, .int v1)], [], me_w M J)) rfl k
          have k := nt_rn_w (a := [(3, .int (v3 + (Int32.ofInt 1))), (2, .int (v2 + (Int32.ofInt 0))), (0, .ref (p 0)), (1, .int v1)]) (b := [(0, .ref (p 0)), (1, .int v1), (2, .int (v2 + (Int32.ofInt 0))), (3, .int (v3 + (Int32.ofInt 1)))]) ⟨rfl, rfl, rfl, rfl, trivial⟩ rfl k
          have k := ih (v2 + (Int32.ofInt 0)) (v3 + (Int32.ofInt 1)) (lx_dec h11 hc) k
          rw [k, x210_4, if_neg h11, if_pos h22, if_neg h31]
      · rw [if_neg h22] at k
        have k := ly_revb 5 (c' := (4, [(3, .int (v3 + (Int32.ofInt 1))), (2, .int (v2 + (Int32.ofInt 0))), (0, .ref (p 0)), (1, .int v1)], [], me_w M J)) rfl k
        have k := nt_rn_w (a := [(3, .int (v3 + (Int32.ofInt 1))), (2, .int (v2 + (Int32.ofInt 0))), (0, .ref (p 0)), (1, .int v1)]) (b := [(0, .ref (p 0)), (1, .int v1), (2, .int (v2 + (Int32.ofInt 0))), (3, .int (v3 + (Int32.ofInt 1)))]) ⟨rfl, rfl, rfl, rfl, trivial⟩ rfl k
        have k := ih (v2 + (Int32.ofInt 0)) (v3 + (Int32.ofInt 1)) (lx_dec h11 hc) k
        rw [k, x210_4, if_neg h11, if_neg h22]
theorem x210_4_rule {p : Nat → Nat} {v1 : Int32} {J : Nat → Nat → Int32} {I : Nat → Int32 → Int32 → Prop} {Q : Int32 → Prop} (h0 : ∀ (v2 : Int32) (v3 : Int32), I 0 v2 v3 → Q v2) (h1 : ∀ (c : Nat) (v2 : Int32) (v3 : Int32), I (c + 1) v2 v3 →
    if (J (p 4) 2) ≤ v3 then (Q v2)
    else if (x173 p v3 (Int32.ofInt 0) J) = v1 then if (x173 p v3 (Int32.ofInt 4) J) = 0 then (I c (v2 + (Int32.ofInt 1)) (v3 + (Int32.ofInt 1)))
        else (I c (v2 + (Int32.ofInt 0)) (v3 + (Int32.ofInt 1)))
      else (I c (v2 + (Int32.ofInt 0)) (v3 + (Int32.ofInt 1)))) : ∀ (c : Nat) (v2 : Int32) (v3 : Int32), I c v2 v3 → Q (x210_4 p v1 J c v2 v3) := by
  intro c
  induction c with
  | zero =>
    intro v2 v3 hi
    rw [x210_4]
    exact h0 v2 v3 hi
  | succ c ih =>
    intro v2 v3 hi
    have hi := h1 c v2 v3 hi
    rw [x210_4]
    by_cases h : (J (p 4) 2) ≤ v3
    · rw [if_pos h] at hi ⊢
      exact hi
    · rw [if_neg h] at hi ⊢
      by_cases h : (x173 p v3 (Int32.ofInt 0) J) = v1
      · rw [if_pos h] at hi ⊢
        by_cases h : (x173 p v3 (Int32.ofInt 4) J) = 0
        · rw [if_pos h] at hi ⊢
          exact ih _ _ hi
        · rw [if_neg h] at hi ⊢
          exact ih _ _ hi
      · rw [if_neg h] at hi ⊢
        exact ih _ _ hi
def x210 (p : Nat → Nat) (v1 : Int32) (J : Nat → Nat → Int32) : Int32 := (x210_4 p v1 J ((J (p 4) 2).toNatClampNeg) (Int32.ofInt 0) (Int32.ofInt 0))
theorem xt210 {X : nt_X} {d : Nat} {M : nt_M} {o : Option Value × nt_M} {p : Nat → Nat} {v1 : Int32} {J : Nat → Nat → Int32} (hp : xs_P M p) (k : nt_ev X d 210 [.ref (p 0), .int v1] (me_w M J) o) : o = (some (.int (x210 p v1 J)), me_w M J) := by
  have k : nt_rn X d 210 (0, [(0, .ref (p 0)), (1, .int v1)], [], me_w M J) o := k
  have k := ly_revb 4 (c' := (4, [(3, .int (Int32.ofInt 0)), (2, .int (Int32.ofInt 0)), (0, .ref (p 0)), (1, .int v1)], [], me_w M J)) rfl k
  have k := nt_rn_w (a := [(3, .int (Int32.ofInt 0)), (2, .int (Int32.ofInt 0)), (0, .ref (p 0)), (1, .int v1)]) (b := [(0, .ref (p 0)), (1, .int v1), (2, .int (Int32.ofInt 0)), (3, .int (Int32.ofInt 0))]) ⟨rfl, rfl, rfl, rfl, trivial⟩ rfl k
  have k := xt210_4 hp  ((J (p 4) 2).toNatClampNeg) (Int32.ofInt 0) (Int32.ofInt 0) (lx_beg (by decide)) k
  rw [k, x210]
/-! Model.cutOn -/
def x207_90 (p : Nat → Nat) (v1 : Int32) (v2 : Int32) (J : Nat → Nat → Int32) : Nat → Int32 → Int32 → Int32
  | 0, v3, v4 => (Int32.ofInt (-1))
  | c + 1, v3, v4 => if (J (p 4) 3) ≤ v4 then (Int32.ofInt (-1))
    else if (x208 p v1 v4 v2 J) = 0 then (x207_90 p v1 v2 J c v3 (v4 + (Int32.ofInt 1)))
      else if (x209 v3 (x180 p v4 (Int32.ofInt 0) J)) = 0 then (x207_90 p v1 v2 J c (v3 ||| ((Int32.ofInt 1) <<< ((x180 p v4 (Int32.ofInt 0) J) &&& 31))) (v4 + (Int32.ofInt 1)))
        else (Int32.ofInt 4)
theorem xt207_90 {X : nt_X} {d : Nat} {M : nt_M} {o : Option Value × nt_M} {p : Nat → Nat} {v1 : Int32} {v2 : Int32} {v5 : Int32} {J : Nat → Nat → Int32} (hp : xs_P M p) : ∀ (c : Nat) (v3 : Int32) (v4 : Int32), (J (p 4) 3).toInt - v4.toInt ≤ c → nt_rn X d 207 (90, [(0, .ref (p 0)), (1, .int v1), (2, .int v2), (3, .int v3), (4, .int v4), (5, .int v5)], [], me_w M J) o → o = (some (.int (x207_90 p v1 v2 J c v3 v4)), me_w M J) := by
  intro c
  induction c with
  | zero =>
    intro v3 v4 hc k
    have k := ly_revb 2 (c' := (93, [(0, .ref (p 0)), (1, .int v1), (2, .int v2), (3, .int v3), (4, .int v4), (5, .int v5)], [.ref (p 0), .int v4], me_w M J)) rfl k
    have k := lz_get (a := (p 0)) (g := 1127) (M := me_w M J) (v := .ref (p 4)) rfl (nt_gfR rfl (hp.1 (0, 27, 4) (by decide))) k
    have k := ly_revb 1 (c' := (97, [(0, .ref (p 0)), (1, .int v1), (2, .int v2), (3, .int v3), (4, .int v4), (5, .int v5)], [.int (Int32.ofInt 3), .ref (p 4), .int v4], me_w M J)) rfl k
    have k := mx_iald (v := J (p 4) 3) rfl (hp.2.2.1 4 (by omega)) ((congrArg (J (p 4)) (show (Int32.ofInt 3).toNatClampNeg = 3 from rfl)).trans (rfl)) k
    have k := ly_revb 1 (c' := (if (J (p 4) 3) ≤ v4 then 149 else 101, [(0, .ref (p 0)), (1, .int v1), (2, .int v2), (3, .int v3), (4, .int v4), (5, .int v5)], [], me_w M J)) rfl k
    have h98 : (J (p 4) 3) ≤ v4 := lx_end hc
    rw [if_pos h98] at k
    have k := ly_revb 1 (c' := (150, [(0, .ref (p 0)), (1, .int v1), (2, .int v2), (3, .int v3), (4, .int v4), (5, .int v5)], [.int (Int32.ofInt (-1))], me_w M J)) rfl k
    have k := lz_ri rfl (by decide) k
    rw [k, x207_90]
  | succ c ih =>
    intro v3 v4 hc k
    have k := ly_revb 2 (c' := (93, [(0, .ref (p 0)), (1, .int v1), (2, .int v2), (3, .int v3), (4, .int v4), (5, .int v5)], [.ref (p 0), .int v4], me_w M J)) rfl k
    have k := lz_get (a := (p 0)) (g := 1127) (M := me_w M J) (v := .ref (p 4)) rfl (nt_gfR rfl (hp.1 (0, 27, 4) (by decide))) k
    have k := ly_revb 1 (c' := (97, [(0, .ref (p 0)), (1, .int v1), (2, .int v2), (3, .int v3), (4, .int v4), (5, .int v5)], [.int (Int32.ofInt 3), .ref (p 4), .int v4], me_w M J)) rfl k
    have k := mx_iald (v := J (p 4) 3) rfl (hp.2.2.1 4 (by omega)) ((congrArg (J (p 4)) (show (Int32.ofInt 3).toNatClampNeg = 3 from rfl)).trans (rfl)) k
    have k := ly_revb 1 (c' := (if (J (p 4) 3) ≤ v4 then 149 else 101, [(0, .ref (p 0)), (1, .int v1), (2, .int v2), (3, .int v3), (4, .int v4), (5, .int v5)], [], me_w M J)) rfl k
    by_cases h98 : (J (p 4) 3) ≤ v4
    · rw [if_pos h98] at k
      have k := ly_revb 1 (c' := (150, [(0, .ref (p 0)), (1, .int v1), (2, .int v2), (3, .int v3), (4, .int v4), (5, .int v5)], [.int (Int32.ofInt (-1))], me_w M J)) rfl k
      have k := lz_ri rfl (by decide) k
      rw [k, x207_90, if_pos h98]
    · rw [if_neg h98] at k
      have k := ly_revb 4 (c' := (106, [(0, .ref (p 0)), (1, .int v1), (2, .int v2), (3, .int v3), (4, .int v4), (5, .int v5)], [.int v2, .int v4, .int v1, .ref (p 0)], me_w M J)) rfl k
      obtain ⟨d1, o1, ed, kc, k⟩ := lz_c (g := 208) (q := 1) (vs := [.ref (p 0), .int v1, .int v4, .int v2]) (rest := []) rfl rfl (by decide) (Or.inr (Or.inl ⟨_, rfl, rfl⟩)) rfl k
      have e1 := xt208 hp kc
      subst e1
      have k : nt_rn X _ 207 (109, [(0, .ref (p 0)), (1, .int v1), (2, .int v2), (3, .int v3), (4, .int v4), (5, .int v5)], [.int (x208 p v1 v4 v2 J)], me_w M J) _ := k
      have k := ly_revb 1 (c' := (if (x208 p v1 v4 v2 J) = 0 then 112 else 115, [(0, .ref (p 0)), (1, .int v1), (2, .int v2), (3, .int v3), (4, .int v4), (5, .int v5)], [], me_w M J)) rfl k
      by_cases h109 : (x208 p v1 v4 v2 J) = 0
      · rw [if_pos h109] at k
        have k := ly_revb 3 (c' := (90, [(4, .int (v4 + (Int32.ofInt 1))), (0, .ref (p 0)), (1, .int v1), (2, .int v2), (3, .int v3), (5, .int v5)], [], me_w M J)) rfl k
        have k := nt_rn_w (a := [(4, .int (v4 + (Int32.ofInt 1))), (0, .ref (p 0)), (1, .int v1), (2, .int v2), (3, .int v3), (5, .int v5)]) (b := [(0, .ref (p 0)), (1, .int v1), (2, .int v2), (3, .int v3), (4, .int (v4 + (Int32.ofInt 1))), (5, .int v5)]) ⟨rfl, rfl, rfl, rfl, rfl, rfl, trivial⟩ rfl k
        have k := ih v3 (v4 + (Int32.ofInt 1)) (lx_dec h98 hc) k
        rw [k, x207_90, if_neg h98, if_pos h109]
      · rw [if_neg h109] at k
        have k := ly_revb 4 (c' := (120, [(0, .ref (p 0)), (1, .int v1), (2, .int v2), (3, .int v3), (4, .int v4), (5, .int v5)], [.int (Int32.ofInt 0), .int v4, .ref (p 0), .int v3], me_w M J)) rfl k
        obtain ⟨d1, o1, ed, kc, k⟩ := lz_c (g := 180) (q := 1) (vs := [.ref (p 0), .int v4, .int (Int32.ofInt 0)]) (rest := [.int v3]) rfl rfl (by decide) (Or.inr (Or.inl ⟨_, rfl, rfl⟩)) rfl k
        have e1 := xt180 hp kc
        subst e1
        have k : nt_rn X _ 207 (123, [(0, .ref (p 0)), (1, .int v1), (2, .int v2), (3, .int v3), (4, .int v4), (5, .int v5)], [.int (x180 p v4 (Int32.ofInt 0) J), .int v3], me_w M J) _ := k
        obtain ⟨d1, o1, ed, kc, k⟩ := lz_c (g := 209) (q := 0) (vs := [.int v3, .int (x180 p v4 (Int32.ofInt 0) J)]) (rest := []) rfl rfl (by decide) (Or.inl ⟨_, rfl, rfl⟩) rfl k
        have e1 := xt209  kc
        subst e1
        have k : nt_rn X _ 207 (126, [(0, .ref (p 0)), (1, .int v1), (2, .int v2), (3, .int v3), (4, .int v4), (5, .int v5)], [.int (x209 v3 (x180 p v4 (Int32.ofInt 0) J))], me_w M J) _ := k
        have k := ly_revb 1 (c' := (if (x209 v3 (x180 p v4 (Int32.ofInt 0) J)) = 0 then 131 else 129, [(0, .ref (p 0)), (1, .int v1), (2, .int v2), (3, .int v3), (4, .int v4), (5, .int v5)], [], me_w M J)) rfl k
        by_cases h126 : (x209 v3 (x180 p v4 (Int32.ofInt 0) J)) = 0
        · rw [if_pos h126] at k
          have k := ly_revb 5 (c' := (137, [(0, .ref (p 0)), (1, .int v1), (2, .int v2), (3, .int v3), (4, .int v4), (5, .int v5)], [.int (Int32.ofInt 0), .int v4, .ref (p 0), .int (Int32.ofInt 1), .int v3], me_w M J)) rfl k
          obtain ⟨d1, o1, ed, kc, k⟩ := lz_c (g := 180) (q := 1) (vs := [.ref (p 0), .int v4, .int (Int32.ofInt 0)]) (rest := [.int (Int32.ofInt 1), .int v3]) rfl rfl (by decide) (Or.inr (Or.inl ⟨_, rfl, rfl⟩)) rfl k
          have e1 := xt180 hp kc
          subst e1
          have k : nt_rn X _ 207 (140, [(0, .ref (p 0)), (1, .int v1), (2, .int v2), (3, .int v3), (4, .int v4), (5, .int v5)], [.int (x180 p v4 (Int32.ofInt 0) J), .int (Int32.ofInt 1), .int v3], me_w M J) _ := k
          have k := ly_revb 5 (c' := (90, [(4, .int (v4 + (Int32.ofInt 1))), (3, .int (v3 ||| ((Int32.ofInt 1) <<< ((x180 p v4 (Int32.ofInt 0) J) &&& 31)))), (0, .ref (p 0)), (1, .int v1), (2, .int v2), (5, .int v5)], [], me_w M J)) rfl k
          have k := nt_rn_w (a := [(4, .int (v4 + (Int32.ofInt 1))), (3, .int (v3 ||| ((Int32.ofInt 1) <<< ((x180 p v4 (Int32.ofInt 0) J) &&& 31)))), (0, .ref (p 0)), (1, .int v1), (2, .int v2), (5, .int v5)]) (b := [(0, .ref (p 0)), (1, .int v1), (2, .int v2), (3, .int (v3 ||| ((Int32.ofInt 1) <<< ((x180 p v4 (Int32.ofInt 0) J) &&& 31)))), (4, .int (v4 + (Int32.ofInt 1))), (5, .int v5)]) ⟨rfl, rfl, rfl, rfl, rfl, rfl, trivial⟩ rfl k
          have k := ih (v3 ||| ((Int32.ofInt 1) <<< ((x180 p v4 (Int32.ofInt 0) J) &&& 31))) (v4 + (Int32.ofInt 1)) (lx_dec h98 hc) k
          rw [k, x207_90, if_neg h98, if_neg h109, if_pos h126]
        · rw [if_neg h126] at k
          have k := ly_revb 1 (c' := (130, [(0, .ref (p 0)), (1, .int v1), (2, .int v2), (3, .int v3), (4, .int v4), (5, .int v5)], [.int (Int32.ofInt 4)], me_w M J)) rfl k
          have k := lz_ri rfl (by decide) k
          rw [k, x207_90, if_neg h98, if_neg h109, if_neg h126]
theorem x207_90_rule {p : Nat → Nat} {v1 : Int32} {v2 : Int32} {J : Nat → Nat → Int32} {I : Nat → Int32 → Int32 → Prop} {Q : Int32 → Prop} (h0 : ∀ (v3 : Int32) (v4 : Int32), I 0 v3 v4 → Q (Int32.ofInt (-1))) (h1 : ∀ (c : Nat) (v3 : Int32) (v4 : Int32), I (c + 1) v3 v4 →
    if (J (p 4) 3) ≤ v4 then (Q (Int32.ofInt (-1)))
    else if (x208 p v1 v4 v2 J) = 0 then (I c v3 (v4 + (Int32.ofInt 1)))
      else if (x209 v3 (x180 p v4 (Int32.ofInt 0) J)) = 0 then (I c (v3 ||| ((Int32.ofInt 1) <<< ((x180 p v4 (Int32.ofInt 0) J) &&& 31))) (v4 + (Int32.ofInt 1)))
        else (Q (Int32.ofInt 4))) : ∀ (c : Nat) (v3 : Int32) (v4 : Int32), I c v3 v4 → Q (x207_90 p v1 v2 J c v3 v4) := by
  intro c
  induction c with
  | zero =>
    intro v3 v4 hi
    rw [x207_90]
    exact h0 v3 v4 hi
  | succ c ih =>
    intro v3 v4 hi
    have hi := h1 c v3 v4 hi
    rw [x207_90]
    by_cases h : (J (p 4) 3) ≤ v4
    · rw [if_pos h] at hi ⊢
      exact hi
    · rw [if_neg h] at hi ⊢
      by_cases h : (x208 p v1 v4 v2 J) = 0
      · rw [if_pos h] at hi ⊢
        exact ih _ _ hi
      · rw [if_neg h] at hi ⊢
        by_cases h : (x209 v3 (x180 p v4 (Int32.ofInt 0) J)) = 0
        · rw [if_pos h] at hi ⊢
          exact ih _ _ hi
        · rw [if_neg h] at hi ⊢
          exact hi
def x207_18 (p : Nat → Nat) (v1 : Int32) (v2 : Int32) (v3 : Int32) (J : Nat → Nat → Int32) : Nat → Int32 → Int32 → Int32
  | 0, v4, v5 => v4
  | c + 1, v4, v5 => if (J (p 4) 3) ≤ v5 then v4
    else if (x208 p v1 v5 v2 J) = 0 then (x207_18 p v1 v2 v3 J c (v4 + (Int32.ofInt 0)) (v5 + (Int32.ofInt 1)))
      else (x207_18 p v1 v2 v3 J c (v4 + (x169 p (x180 p v5 (Int32.ofInt 0) J) v3 J)) (v5 + (Int32.ofInt 1)))
theorem xt207_18 {X : nt_X} {d : Nat} {M : nt_M} {o : Option Value × nt_M} {p : Nat → Nat} {v1 : Int32} {v2 : Int32} {v3 : Int32} {J : Nat → Nat → Int32} (hp : xs_P M p) : ∀ (c : Nat) (v4 : Int32) (v5 : Int32), (J (p 4) 3).toInt - v5.toInt ≤ c → nt_rn X d 207 (18, [(0, .ref (p 0)), (1, .int v1), (2, .int v2), (3, .int v3), (4, .int v4), (5, .int v5)], [], me_w M J) o → ∃ (w5 : Int32), nt_rn X d 207 (67, [(0, .ref (p 0)), (1, .int v1), (2, .int v2), (3, .int v3), (4, .int (x207_18 p v1 v2 v3 J c v4 v5)), (5, .int w5)], [], me_w M J) o := by
  intro c
  induction c with
  | zero =>
    intro v4 v5 hc k
    have k := ly_revb 2 (c' := (21, [(0, .ref (p 0)), (1, .int v1), (2, .int v2), (3, .int v3), (4, .int v4), (5, .int v5)], [.ref (p 0), .int v5], me_w M J)) rfl k
    have k := lz_get (a := (p 0)) (g := 1127) (M := me_w M J) (v := .ref (p 4)) rfl (nt_gfR rfl (hp.1 (0, 27, 4) (by decide))) k
    have k := ly_revb 1 (c' := (25, [(0, .ref (p 0)), (1, .int v1), (2, .int v2), (3, .int v3), (4, .int v4), (5, .int v5)], [.int (Int32.ofInt 3), .ref (p 4), .int v5], me_w M J)) rfl k
    have k := mx_iald (v := J (p 4) 3) rfl (hp.2.2.1 4 (by omega)) ((congrArg (J (p 4)) (show (Int32.ofInt 3).toNatClampNeg = 3 from rfl)).trans (rfl)) k
    have k := ly_revb 1 (c' := (if (J (p 4) 3) ≤ v5 then 67 else 29, [(0, .ref (p 0)), (1, .int v1), (2, .int v2), (3, .int v3), (4, .int v4), (5, .int v5)], [], me_w M J)) rfl k
    have h26 : (J (p 4) 3) ≤ v5 := lx_end hc
    rw [if_pos h26] at k
    have k := nt_rn_w (a := [(0, .ref (p 0)), (1, .int v1), (2, .int v2), (3, .int v3), (4, .int v4), (5, .int v5)]) (b := [(0, .ref (p 0)), (1, .int v1), (2, .int v2), (3, .int v3), (4, .int v4), (5, .int v5)]) ⟨rfl, rfl, rfl, rfl, rfl, rfl, trivial⟩ rfl k
    rw [x207_18]
    exact ⟨_, k⟩
  | succ c ih =>
    intro v4 v5 hc k
    have k := ly_revb 2 (c' := (21, [(0, .ref (p 0)), (1, .int v1), (2, .int v2), (3, .int v3), (4, .int v4), (5, .int v5)], [.ref (p 0), .int v5], me_w M J)) rfl k
    have k := lz_get (a := (p 0)) (g := 1127) (M := me_w M J) (v := .ref (p 4)) rfl (nt_gfR rfl (hp.1 (0, 27, 4) (by decide))) k
    have k := ly_revb 1 (c' := (25, [(0, .ref (p 0)), (1, .int v1), (2, .int v2), (3, .int v3), (4, .int v4), (5, .int v5)], [.int (Int32.ofInt 3), .ref (p 4), .int v5], me_w M J)) rfl k
    have k := mx_iald (v := J (p 4) 3) rfl (hp.2.2.1 4 (by omega)) ((congrArg (J (p 4)) (show (Int32.ofInt 3).toNatClampNeg = 3 from rfl)).trans (rfl)) k
    have k := ly_revb 1 (c' := (if (J (p 4) 3) ≤ v5 then 67 else 29, [(0, .ref (p 0)), (1, .int v1), (2, .int v2), (3, .int v3), (4, .int v4), (5, .int v5)], [], me_w M J)) rfl k
    by_cases h26 : (J (p 4) 3) ≤ v5
    · rw [if_pos h26] at k
      have k := nt_rn_w (a := [(0, .ref (p 0)), (1, .int v1), (2, .int v2), (3, .int v3), (4, .int v4), (5, .int v5)]) (b := [(0, .ref (p 0)), (1, .int v1), (2, .int v2), (3, .int v3), (4, .int v4), (5, .int v5)]) ⟨rfl, rfl, rfl, rfl, rfl, rfl, trivial⟩ rfl k
      rw [x207_18, if_pos h26]
      exact ⟨_, k⟩
    · rw [if_neg h26] at k
      have k := ly_revb 5 (c' := (36, [(0, .ref (p 0)), (1, .int v1), (2, .int v2), (3, .int v3), (4, .int v4), (5, .int v5)], [.int v2, .int v5, .int v1, .ref (p 0), .int v4], me_w M J)) rfl k
      obtain ⟨d1, o1, ed, kc, k⟩ := lz_c (g := 208) (q := 1) (vs := [.ref (p 0), .int v1, .int v5, .int v2]) (rest := [.int v4]) rfl rfl (by decide) (Or.inr (Or.inl ⟨_, rfl, rfl⟩)) rfl k
      have e1 := xt208 hp kc
      subst e1
      have k : nt_rn X _ 207 (39, [(0, .ref (p 0)), (1, .int v1), (2, .int v2), (3, .int v3), (4, .int v4), (5, .int v5)], [.int (x208 p v1 v5 v2 J), .int v4], me_w M J) _ := k
      have k := ly_revb 1 (c' := (if (x208 p v1 v5 v2 J) = 0 then 57 else 42, [(0, .ref (p 0)), (1, .int v1), (2, .int v2), (3, .int v3), (4, .int v4), (5, .int v5)], [.int v4], me_w M J)) rfl k
      by_cases h39 : (x208 p v1 v5 v2 J) = 0
      · rw [if_pos h39] at k
        have k := ly_revb 5 (c' := (18, [(5, .int (v5 + (Int32.ofInt 1))), (4, .int (v4 + (Int32.ofInt 0))), (0, .ref (p 0)), (1, .int v1), (2, .int v2), (3, .int v3)], [], me_w M J)) rfl k
        have k := nt_rn_w (a := [(5, .int (v5 + (Int32.ofInt 1))), (4, .int (v4 + (Int32.ofInt 0))), (0, .ref (p 0)), (1, .int v1), (2, .int v2), (3, .int v3)]) (b := [(0, .ref (p 0)), (1, .int v1), (2, .int v2), (3, .int v3), (4, .int (v4 + (Int32.ofInt 0))), (5, .int (v5 + (Int32.ofInt 1)))]) ⟨rfl, rfl, rfl, rfl, rfl, rfl, trivial⟩ rfl k
        have k := ih (v4 + (Int32.ofInt 0)) (v5 + (Int32.ofInt 1)) (lx_dec h26 hc) k
        rw [x207_18, if_neg h26, if_pos h39]
        exact k
      · rw [if_neg h39] at k
        have k := ly_revb 4 (c' := (47, [(0, .ref (p 0)), (1, .int v1), (2, .int v2), (3, .int v3), (4, .int v4), (5, .int v5)], [.int (Int32.ofInt 0), .int v5, .ref (p 0), .ref (p 0), .int v4], me_w M J)) rfl k
        obtain ⟨d1, o1, ed, kc, k⟩ := lz_c (g := 180) (q := 1) (vs := [.ref (p 0), .int v5, .int (Int32.ofInt 0)]) (rest := [.ref (p 0), .int v4]) rfl rfl (by decide) (Or.inr (Or.inl ⟨_, rfl, rfl⟩)) rfl k
        have e1 := xt180 hp kc
        subst e1
        have k : nt_rn X _ 207 (50, [(0, .ref (p 0)), (1, .int v1), (2, .int v2), (3, .int v3), (4, .int v4), (5, .int v5)], [.int (x180 p v5 (Int32.ofInt 0) J), .ref (p 0), .int v4], me_w M J) _ := k
        have k := ly_revb 1 (c' := (51, [(0, .ref (p 0)), (1, .int v1), (2, .int v2), (3, .int v3), (4, .int v4), (5, .int v5)], [.int v3, .int (x180 p v5 (Int32.ofInt 0) J), .ref (p 0), .int v4], me_w M J)) rfl k
        obtain ⟨d1, o1, ed, kc, k⟩ := lz_c (g := 169) (q := 1) (vs := [.ref (p 0), .int (x180 p v5 (Int32.ofInt 0) J), .int v3]) (rest := [.int v4]) rfl rfl (by decide) (Or.inr (Or.inl ⟨_, rfl, rfl⟩)) rfl k
        have e1 := xt169 hp kc
        subst e1
        have k : nt_rn X _ 207 (54, [(0, .ref (p 0)), (1, .int v1), (2, .int v2), (3, .int v3), (4, .int v4), (5, .int v5)], [.int (x169 p (x180 p v5 (Int32.ofInt 0) J) v3 J), .int v4], me_w M J) _ := k
        have k := ly_revb 5 (c' := (18, [(5, .int (v5 + (Int32.ofInt 1))), (4, .int (v4 + (x169 p (x180 p v5 (Int32.ofInt 0) J) v3 J))), (0, .ref (p 0)), (1, .int v1), (2, .int v2), (3, .int v3)], [], me_w M J)) rfl k
        have k := nt_rn_w (a := [(5, .int (v5 + (Int32.ofInt 1))), (4, .int (v4 + (x169 p (x180 p v5 (Int32.ofInt 0) J) v3 J))), (0, .ref (p 0)), (1, .int v1), (2, .int v2), (3, .int v3)]) (b := [(0, .ref (p 0)), (1, .int v1), (2, .int v2), (3, .int v3), (4, .int (v4 + (x169 p (x180 p v5 (Int32.ofInt 0) J) v3 J))), (5, .int (v5 + (Int32.ofInt 1)))]) ⟨rfl, rfl, rfl, rfl, rfl, rfl, trivial⟩ rfl k
        have k := ih (v4 + (x169 p (x180 p v5 (Int32.ofInt 0) J) v3 J)) (v5 + (Int32.ofInt 1)) (lx_dec h26 hc) k
        rw [x207_18, if_neg h26, if_neg h39]
        exact k
theorem x207_18_rule {p : Nat → Nat} {v1 : Int32} {v2 : Int32} {v3 : Int32} {J : Nat → Nat → Int32} {I : Nat → Int32 → Int32 → Prop} {Q : Int32 → Prop} (h0 : ∀ (v4 : Int32) (v5 : Int32), I 0 v4 v5 → Q v4) (h1 : ∀ (c : Nat) (v4 : Int32) (v5 : Int32), I (c + 1) v4 v5 →
    if (J (p 4) 3) ≤ v5 then (Q v4)
    else if (x208 p v1 v5 v2 J) = 0 then (I c (v4 + (Int32.ofInt 0)) (v5 + (Int32.ofInt 1)))
      else (I c (v4 + (x169 p (x180 p v5 (Int32.ofInt 0) J) v3 J)) (v5 + (Int32.ofInt 1)))) : ∀ (c : Nat) (v4 : Int32) (v5 : Int32), I c v4 v5 → Q (x207_18 p v1 v2 v3 J c v4 v5) := by
  intro c
  induction c with
  | zero =>
    intro v4 v5 hi
    rw [x207_18]
    exact h0 v4 v5 hi
  | succ c ih =>
    intro v4 v5 hi
    have hi := h1 c v4 v5 hi
    rw [x207_18]
    by_cases h : (J (p 4) 3) ≤ v5
    · rw [if_pos h] at hi ⊢
      exact hi
    · rw [if_neg h] at hi ⊢
      by_cases h : (x208 p v1 v5 v2 J) = 0
      · rw [if_pos h] at hi ⊢
        exact ih _ _ hi
      · rw [if_neg h] at hi ⊢
        exact ih _ _ hi
def x207_2 (p : Nat → Nat) (v1 : Int32) (v2 : Int32) (J : Nat → Nat → Int32) : Nat → Int32 → Int32
  | 0, v3 => (x207_90 p v1 v2 J ((J (p 4) 3).toNatClampNeg) (Int32.ofInt 0) (Int32.ofInt 0))
  | c + 1, v3 => if (J (p 4) 0) ≤ v3 then (x207_90 p v1 v2 J ((J (p 4) 3).toNatClampNeg) (Int32.ofInt 0) (Int32.ofInt 0))
    else if (x207_18 p v1 v2 v3 J ((J (p 4) 3).toNatClampNeg) (Int32.ofInt 0) (Int32.ofInt 0)) ≤ (x210 p v3 J) then (x207_2 p v1 v2 J c (v3 + (Int32.ofInt 1)))
      else v3
theorem xt207_2 {X : nt_X} {d : Nat} {M : nt_M} {o : Option Value × nt_M} {p : Nat → Nat} {v1 : Int32} {v2 : Int32} {J : Nat → Nat → Int32} (hp : xs_P M p) : ∀ (c : Nat) (v3 : Int32) (v4 : Int32) (v5 : Int32), (J (p 4) 0).toInt - v3.toInt ≤ c → nt_rn X d 207 (2, [(0, .ref (p 0)), (1, .int v1), (2, .int v2), (3, .int v3), (4, .int v4), (5, .int v5)], [], me_w M J) o → o = (some (.int (x207_2 p v1 v2 J c v3)), me_w M J) := by
  intro c
  induction c with
  | zero =>
    intro v3 v4 v5 hc k
    have k := ly_revb 2 (c' := (4, [(0, .ref (p 0)), (1, .int v1), (2, .int v2), (3, .int v3), (4, .int v4), (5, .int v5)], [.ref (p 0), .int v3], me_w M J)) rfl k
    have k := lz_get (a := (p 0)) (g := 1127) (M := me_w M J) (v := .ref (p 4)) rfl (nt_gfR rfl (hp.1 (0, 27, 4) (by decide))) k
    have k := ly_revb 1 (c' := (8, [(0, .ref (p 0)), (1, .int v1), (2, .int v2), (3, .int v3), (4, .int v4), (5, .int v5)], [.int (Int32.ofInt 0), .ref (p 4), .int v3], me_w M J)) rfl k
    have k := mx_iald (v := J (p 4) 0) rfl (hp.2.2.1 4 (by omega)) ((congrArg (J (p 4)) (show (Int32.ofInt 0).toNatClampNeg = 0 from rfl)).trans (rfl)) k
    have k := ly_revb 1 (c' := (if (J (p 4) 0) ≤ v3 then 85 else 12, [(0, .ref (p 0)), (1, .int v1), (2, .int v2), (3, .int v3), (4, .int v4), (5, .int v5)], [], me_w M J)) rfl k
    have h9 : (J (p 4) 0) ≤ v3 := lx_end hc
    rw [if_pos h9] at k
    have k := ly_revb 4 (c' := (90, [(4, .int (Int32.ofInt 0)), (3, .int (Int32.ofInt 0)), (0, .ref (p 0)), (1, .int v1), (2, .int v2), (5, .int v5)], [], me_w M J)) rfl k
    have k := nt_rn_w (a := [(4, .int (Int32.ofInt 0)), (3, .int (Int32.ofInt 0)), (0, .ref (p 0)), (1, .int v1), (2, .int v2), (5, .int v5)]) (b := [(0, .ref (p 0)), (1, .int v1), (2, .int v2), (3, .int (Int32.ofInt 0)), (4, .int (Int32.ofInt 0)), (5, .int v5)]) ⟨rfl, rfl, rfl, rfl, rfl, rfl, trivial⟩ rfl k
    have k := xt207_90 hp  ((J (p 4) 3).toNatClampNeg) (Int32.ofInt 0) (Int32.ofInt 0) (lx_beg (by decide)) k
    rw [k, x207_2]
  | succ c ih =>
    intro v3 v4 v5 hc k
    have k := ly_revb 2 (c' := (4, [(0, .ref (p 0)), (1, .int v1), (2, .int v2), (3, .int v3), (4, .int v4), (5, .int v5)], [.ref (p 0), .int v3], me_w M J)) rfl k
    have k := lz_get (a := (p 0)) (g := 1127) (M := me_w M J) (v := .ref (p 4)) rfl (nt_gfR rfl (hp.1 (0, 27, 4) (by decide))) k
    have k := ly_revb 1 (c' := (8, [(0, .ref (p 0)), (1, .int v1), (2, .int v2), (3, .int v3), (4, .int v4), (5, .int v5)], [.int (Int32.ofInt 0), .ref (p 4), .int v3], me_w M J)) rfl k
    have k := mx_iald (v := J (p 4) 0) rfl (hp.2.2.1 4 (by omega)) ((congrArg (J (p 4)) (show (Int32.ofInt 0).toNatClampNeg = 0 from rfl)).trans (rfl)) k
    have k := ly_revb 1 (c' := (if (J (p 4) 0) ≤ v3 then 85 else 12, [(0, .ref (p 0)), (1, .int v1), (2, .int v2), (3, .int v3), (4, .int v4), (5, .int v5)], [], me_w M J)) rfl k
    by_cases h9 : (J (p 4) 0) ≤ v3
    · rw [if_pos h9] at k
      have k := ly_revb 4 (c' := (90, [(4, .int (Int32.ofInt 0)), (3, .int (Int32.ofInt 0)), (0, .ref (p 0)), (1, .int v1), (2, .int v2), (5, .int v5)], [], me_w M J)) rfl k
      have k := nt_rn_w (a := [(4, .int (Int32.ofInt 0)), (3, .int (Int32.ofInt 0)), (0, .ref (p 0)), (1, .int v1), (2, .int v2), (5, .int v5)]) (b := [(0, .ref (p 0)), (1, .int v1), (2, .int v2), (3, .int (Int32.ofInt 0)), (4, .int (Int32.ofInt 0)), (5, .int v5)]) ⟨rfl, rfl, rfl, rfl, rfl, rfl, trivial⟩ rfl k
      have k := xt207_90 hp  ((J (p 4) 3).toNatClampNeg) (Int32.ofInt 0) (Int32.ofInt 0) (lx_beg (by decide)) k
      rw [k, x207_2, if_pos h9]
    · rw [if_neg h9] at k
      have k := ly_revb 4 (c' := (18, [(5, .int (Int32.ofInt 0)), (4, .int (Int32.ofInt 0)), (0, .ref (p 0)), (1, .int v1), (2, .int v2), (3, .int v3)], [], me_w M J)) rfl k
      have k := nt_rn_w (a := [(5, .int (Int32.ofInt 0)), (4, .int (Int32.ofInt 0)), (0, .ref (p 0)), (1, .int v1), (2, .int v2), (3, .int v3)]) (b := [(0, .ref (p 0)), (1, .int v1), (2, .int v2), (3, .int v3), (4, .int (Int32.ofInt 0)), (5, .int (Int32.ofInt 0))]) ⟨rfl, rfl, rfl, rfl, rfl, rfl, trivial⟩ rfl k
      have k := xt207_18 hp  ((J (p 4) 3).toNatClampNeg) (Int32.ofInt 0) (Int32.ofInt 0) (lx_beg (by decide)) k
      obtain ⟨w5, k⟩ := k
      have k : nt_rn X _ 207 (67, [(0, .ref (p 0)), (1, .int v1), (2, .int v2), (3, .int v3), (4, .int (x207_18 p v1 v2 v3 J ((J (p 4) 3).toNatClampNeg) (Int32.ofInt 0) (Int32.ofInt 0))), (5, .int w5)], [], me_w M J) _ := k
      have k := ly_revb 3 (c' := (71, [(0, .ref (p 0)), (1, .int v1), (2, .int v2), (3, .int v3), (4, .int (x207_18 p v1 v2 v3 J ((J (p 4) 3).toNatClampNeg) (Int32.ofInt 0) (Int32.ofInt 0))), (5, .int w5)], [.int v3, .ref (p 0), .int (x207_18 p v1 v2 v3 J ((J (p 4) 3).toNatClampNeg) (Int32.ofInt 0) (Int32.ofInt 0))], me_w M J)) rfl k
      obtain ⟨d1, o1, ed, kc, k⟩ := lz_c (g := 210) (q := 1) (vs := [.ref (p 0), .int v3]) (rest := [.int (x207_18 p v1 v2 v3 J ((J (p 4) 3).toNatClampNeg) (Int32.ofInt 0) (Int32.ofInt 0))]) rfl rfl (by decide) (Or.inr (Or.inl ⟨_, rfl, rfl⟩)) rfl k
      have e1 := xt210 hp kc
      subst e1
      have k : nt_rn X _ 207 (74, [(0, .ref (p 0)), (1, .int v1), (2, .int v2), (3, .int v3), (4, .int (x207_18 p v1 v2 v3 J ((J (p 4) 3).toNatClampNeg) (Int32.ofInt 0) (Int32.ofInt 0))), (5, .int w5)], [.int (x210 p v3 J), .int (x207_18 p v1 v2 v3 J ((J (p 4) 3).toNatClampNeg) (Int32.ofInt 0) (Int32.ofInt 0))], me_w M J) _ := k
      have k := ly_revb 1 (c' := (if (x207_18 p v1 v2 v3 J ((J (p 4) 3).toNatClampNeg) (Int32.ofInt 0) (Int32.ofInt 0)) ≤ (x210 p v3 J) then 79 else 77, [(0, .ref (p 0)), (1, .int v1), (2, .int v2), (3, .int v3), (4, .int (x207_18 p v1 v2 v3 J ((J (p 4) 3).toNatClampNeg) (Int32.ofInt 0) (Int32.ofInt 0))), (5, .int w5)], [], me_w M J)) rfl k
      by_cases h74 : (x207_18 p v1 v2 v3 J ((J (p 4) 3).toNatClampNeg) (Int32.ofInt 0) (Int32.ofInt 0)) ≤ (x210 p v3 J)
      · rw [if_pos h74] at k
        have k := ly_revb 2 (c' := (2, [(3, .int (v3 + (Int32.ofInt 1))), (0, .ref (p 0)), (1, .int v1), (2, .int v2), (4, .int (x207_18 p v1 v2 v3 J ((J (p 4) 3).toNatClampNeg) (Int32.ofInt 0) (Int32.ofInt 0))), (5, .int w5)], [], me_w M J)) rfl k
        have k := nt_rn_w (a := [(3, .int (v3 + (Int32.ofInt 1))), (0, .ref (p 0)), (1, .int v1), (2, .int v2), (4, .int (x207_18 p v1 v2 v3 J ((J (p 4) 3).toNatClampNeg) (Int32.ofInt 0) (Int32.ofInt 0))), (5, .int w5)]) (b := [(0, .ref (p 0)), (1, .int v1), (2, .int v2), (3, .int (v3 + (Int32.ofInt 1))), (4, .int (x207_18 p v1 v2 v3 J ((J (p 4) 3).toNatClampNeg) (Int32.ofInt 0) (Int32.ofInt 0))), (5, .int w5)]) ⟨rfl, rfl, rfl, rfl, rfl, rfl, trivial⟩ rfl k
        have k := ih (v3 + (Int32.ofInt 1)) (x207_18 p v1 v2 v3 J ((J (p 4) 3).toNatClampNeg) (Int32.ofInt 0) (Int32.ofInt 0)) w5 (lx_dec h9 hc) k
        rw [k, x207_2, if_neg h9, if_pos h74]
      · rw [if_neg h74] at k
        have k := ly_revb 1 (c' := (78, [(0, .ref (p 0)), (1, .int v1), (2, .int v2), (3, .int v3), (4, .int (x207_18 p v1 v2 v3 J ((J (p 4) 3).toNatClampNeg) (Int32.ofInt 0) (Int32.ofInt 0))), (5, .int w5)], [.int v3], me_w M J)) rfl k
        have k := lz_ri rfl (by decide) k
        rw [k, x207_2, if_neg h9, if_neg h74]
theorem x207_2_rule {p : Nat → Nat} {v1 : Int32} {v2 : Int32} {J : Nat → Nat → Int32} {I : Nat → Int32 → Prop} {Q : Int32 → Prop} (h0 : ∀ (v3 : Int32), I 0 v3 → Q (x207_90 p v1 v2 J ((J (p 4) 3).toNatClampNeg) (Int32.ofInt 0) (Int32.ofInt 0))) (h1 : ∀ (c : Nat) (v3 : Int32), I (c + 1) v3 →
    if (J (p 4) 0) ≤ v3 then (Q (x207_90 p v1 v2 J ((J (p 4) 3).toNatClampNeg) (Int32.ofInt 0) (Int32.ofInt 0)))
    else if (x207_18 p v1 v2 v3 J ((J (p 4) 3).toNatClampNeg) (Int32.ofInt 0) (Int32.ofInt 0)) ≤ (x210 p v3 J) then (I c (v3 + (Int32.ofInt 1)))
      else (Q v3)) : ∀ (c : Nat) (v3 : Int32), I c v3 → Q (x207_2 p v1 v2 J c v3) := by
  intro c
  induction c with
  | zero =>
    intro v3 hi
    rw [x207_2]
    exact h0 v3 hi
  | succ c ih =>
    intro v3 hi
    have hi := h1 c v3 hi
    rw [x207_2]
    by_cases h : (J (p 4) 0) ≤ v3
    · rw [if_pos h] at hi ⊢
      exact hi
    · rw [if_neg h] at hi ⊢
      by_cases h : (x207_18 p v1 v2 v3 J ((J (p 4) 3).toNatClampNeg) (Int32.ofInt 0) (Int32.ofInt 0)) ≤ (x210 p v3 J)
      · rw [if_pos h] at hi ⊢
        exact ih _ hi
      · rw [if_neg h] at hi ⊢
        exact hi
def x207 (p : Nat → Nat) (v1 : Int32) (v2 : Int32) (J : Nat → Nat → Int32) : Int32 := (x207_2 p v1 v2 J ((J (p 4) 0).toNatClampNeg) (Int32.ofInt 0))
theorem xt207 {X : nt_X} {d : Nat} {M : nt_M} {o : Option Value × nt_M} {p : Nat → Nat} {v1 : Int32} {v2 : Int32} {J : Nat → Nat → Int32} (hp : xs_P M p) (k : nt_ev X d 207 [.ref (p 0), .int v1, .int v2] (me_w M J) o) : o = (some (.int (x207 p v1 v2 J)), me_w M J) := by
  have k : nt_rn X d 207 (0, [(0, .ref (p 0)), (1, .int v1), (2, .int v2)], [], me_w M J) o := k
  have k := ly_revb 2 (c' := (2, [(3, .int (Int32.ofInt 0)), (0, .ref (p 0)), (1, .int v1), (2, .int v2)], [], me_w M J)) rfl k
  have k := nt_rn_w (a := [(3, .int (Int32.ofInt 0)), (0, .ref (p 0)), (1, .int v1), (2, .int v2)]) (b := [(0, .ref (p 0)), (1, .int v1), (2, .int v2), (3, .int (Int32.ofInt 0)), (4, .int (Int32.ofInt 0)), (5, .int (Int32.ofInt 0))]) ⟨rfl, rfl, rfl, rfl, trivial⟩ rfl k
  have k := xt207_2 hp  ((J (p 4) 0).toNatClampNeg) (Int32.ofInt 0) (Int32.ofInt 0) (Int32.ofInt 0) (lx_beg (by decide)) k
  rw [k, x207]
/-! Model.cutDay -/
def x206_2 (p : Nat → Nat) (v1 : Int32) (J : Nat → Nat → Int32) : Nat → Int32 → Int32
  | 0, v2 => (Int32.ofInt (-1))
  | c + 1, v2 => if (Int32.ofInt 99) ≤ v2 then (Int32.ofInt (-1))
    else if (x207 p v1 v2 J) < 0 then (x206_2 p v1 J c (v2 + (Int32.ofInt 1)))
      else v2
theorem xt206_2 {X : nt_X} {d : Nat} {M : nt_M} {o : Option Value × nt_M} {p : Nat → Nat} {v1 : Int32} {J : Nat → Nat → Int32} (hp : xs_P M p) : ∀ (c : Nat) (v2 : Int32), (Int32.ofInt 99).toInt - v2.toInt ≤ c → nt_rn X d 206 (2, [(0, .ref (p 0)), (1, .int v1), (2, .int v2)], [], me_w M J) o → o = (some (.int (x206_2 p v1 J c v2)), me_w M J) := by
  intro c
  induction c with
  | zero =>
    intro v2 hc k
    have k := ly_revb 3 (c' := (if (Int32.ofInt 99) ≤ v2 then 25 else 8, [(0, .ref (p 0)), (1, .int v1), (2, .int v2)], [], me_w M J)) rfl k
    have h5 : (Int32.ofInt 99) ≤ v2 := lx_end hc
    rw [if_pos h5] at k
    have k := ly_revb 1 (c' := (26, [(0, .ref (p 0)), (1, .int v1), (2, .int v2)], [.int (Int32.ofInt (-1))], me_w M J)) rfl k
    have k := lz_ri rfl (by decide) k
    rw [k, x206_2]
  | succ c ih =>
    intro v2 hc k
    have k := ly_revb 3 (c' := (if (Int32.ofInt 99) ≤ v2 then 25 else 8, [(0, .ref (p 0)), (1, .int v1), (2, .int v2)], [], me_w M J)) rfl k
    by_cases h5 : (Int32.ofInt 99) ≤ v2
    · rw [if_pos h5] at k
      have k := ly_revb 1 (c' := (26, [(0, .ref (p 0)), (1, .int v1), (2, .int v2)], [.int (Int32.ofInt (-1))], me_w M J)) rfl k
      have k := lz_ri rfl (by decide) k
      rw [k, x206_2, if_pos h5]
    · rw [if_neg h5] at k
      have k := ly_revb 3 (c' := (11, [(0, .ref (p 0)), (1, .int v1), (2, .int v2)], [.int v2, .int v1, .ref (p 0)], me_w M J)) rfl k
      obtain ⟨d1, o1, ed, kc, k⟩ := lz_c (g := 207) (q := 1) (vs := [.ref (p 0), .int v1, .int v2]) (rest := []) rfl rfl (by decide) (Or.inr (Or.inl ⟨_, rfl, rfl⟩)) rfl k
      have e1 := xt207 hp kc
      subst e1
      have k : nt_rn X _ 206 (14, [(0, .ref (p 0)), (1, .int v1), (2, .int v2)], [.int (x207 p v1 v2 J)], me_w M J) _ := k
      have k := ly_revb 1 (c' := (if (x207 p v1 v2 J) < 0 then 19 else 17, [(0, .ref (p 0)), (1, .int v1), (2, .int v2)], [], me_w M J)) rfl k
      by_cases h14 : (x207 p v1 v2 J) < 0
      · rw [if_pos h14] at k
        have k := ly_revb 2 (c' := (2, [(2, .int (v2 + (Int32.ofInt 1))), (0, .ref (p 0)), (1, .int v1)], [], me_w M J)) rfl k
        have k := nt_rn_w (a := [(2, .int (v2 + (Int32.ofInt 1))), (0, .ref (p 0)), (1, .int v1)]) (b := [(0, .ref (p 0)), (1, .int v1), (2, .int (v2 + (Int32.ofInt 1)))]) ⟨rfl, rfl, rfl, trivial⟩ rfl k
        have k := ih (v2 + (Int32.ofInt 1)) (lx_dec h5 hc) k
        rw [k, x206_2, if_neg h5, if_pos h14]
      · rw [if_neg h14] at k
        have k := ly_revb 1 (c' := (18, [(0, .ref (p 0)), (1, .int v1), (2, .int v2)], [.int v2], me_w M J)) rfl k
        have k := lz_ri rfl (by decide) k
        rw [k, x206_2, if_neg h5, if_neg h14]
theorem x206_2_rule {p : Nat → Nat} {v1 : Int32} {J : Nat → Nat → Int32} {I : Nat → Int32 → Prop} {Q : Int32 → Prop} (h0 : ∀ (v2 : Int32), I 0 v2 → Q (Int32.ofInt (-1))) (h1 : ∀ (c : Nat) (v2 : Int32), I (c + 1) v2 →
    if (Int32.ofInt 99) ≤ v2 then (Q (Int32.ofInt (-1)))
    else if (x207 p v1 v2 J) < 0 then (I c (v2 + (Int32.ofInt 1)))
      else (Q v2)) : ∀ (c : Nat) (v2 : Int32), I c v2 → Q (x206_2 p v1 J c v2) := by
  intro c
  induction c with
  | zero =>
    intro v2 hi
    rw [x206_2]
    exact h0 v2 hi
  | succ c ih =>
    intro v2 hi
    have hi := h1 c v2 hi
    rw [x206_2]
    by_cases h : (Int32.ofInt 99) ≤ v2
    · rw [if_pos h] at hi ⊢
      exact hi
    · rw [if_neg h] at hi ⊢
      by_cases h : (x207 p v1 v2 J) < 0
      · rw [if_pos h] at hi ⊢
        exact ih _ hi
      · rw [if_neg h] at hi ⊢
        exact hi
def x206 (p : Nat → Nat) (v1 : Int32) (J : Nat → Nat → Int32) : Int32 := (x206_2 p v1 J ((Int32.ofInt 99).toNatClampNeg) (Int32.ofInt 0))
theorem xt206 {X : nt_X} {d : Nat} {M : nt_M} {o : Option Value × nt_M} {p : Nat → Nat} {v1 : Int32} {J : Nat → Nat → Int32} (hp : xs_P M p) (k : nt_ev X d 206 [.ref (p 0), .int v1] (me_w M J) o) : o = (some (.int (x206 p v1 J)), me_w M J) := by
  have k : nt_rn X d 206 (0, [(0, .ref (p 0)), (1, .int v1)], [], me_w M J) o := k
  have k := ly_revb 2 (c' := (2, [(2, .int (Int32.ofInt 0)), (0, .ref (p 0)), (1, .int v1)], [], me_w M J)) rfl k
  have k := nt_rn_w (a := [(2, .int (Int32.ofInt 0)), (0, .ref (p 0)), (1, .int v1)]) (b := [(0, .ref (p 0)), (1, .int v1), (2, .int (Int32.ofInt 0))]) ⟨rfl, rfl, rfl, trivial⟩ rfl k
  have k := xt206_2 hp  ((Int32.ofInt 99).toNatClampNeg) (Int32.ofInt 0) (lx_beg (by decide)) k
  rw [k, x206]
/-! Model.payOf -/
def x213_4 (p : Nat → Nat) (v1 : Int32) (J : Nat → Nat → Int32) : Nat → Int32 → Int32 → Int32
  | 0, v2, v3 => v2
  | c + 1, v2, v3 => if (J (p 4) 3) ≤ v3 then v2
    else if (x209 v1 v3) = 0 then (x213_4 p v1 J c (v2 + (Int32.ofInt 0)) (v3 + (Int32.ofInt 1)))
      else (x213_4 p v1 J c (v2 + (x180 p v3 (Int32.ofInt 3) J)) (v3 + (Int32.ofInt 1)))
theorem xt213_4 {X : nt_X} {d : Nat} {M : nt_M} {o : Option Value × nt_M} {p : Nat → Nat} {v1 : Int32} {J : Nat → Nat → Int32} (hp : xs_P M p) : ∀ (c : Nat) (v2 : Int32) (v3 : Int32), (J (p 4) 3).toInt - v3.toInt ≤ c → nt_rn X d 213 (4, [(0, .ref (p 0)), (1, .int v1), (2, .int v2), (3, .int v3)], [], me_w M J) o → o = (some (.int (x213_4 p v1 J c v2 v3)), me_w M J) := by
  intro c
  induction c with
  | zero =>
    intro v2 v3 hc k
    have k := ly_revb 2 (c' := (6, [(0, .ref (p 0)), (1, .int v1), (2, .int v2), (3, .int v3)], [.ref (p 0), .int v3], me_w M J)) rfl k
    have k := lz_get (a := (p 0)) (g := 1127) (M := me_w M J) (v := .ref (p 4)) rfl (nt_gfR rfl (hp.1 (0, 27, 4) (by decide))) k
    have k := ly_revb 1 (c' := (10, [(0, .ref (p 0)), (1, .int v1), (2, .int v2), (3, .int v3)], [.int (Int32.ofInt 3), .ref (p 4), .int v3], me_w M J)) rfl k
    have k := mx_iald (v := J (p 4) 3) rfl (hp.2.2.1 4 (by omega)) ((congrArg (J (p 4)) (show (Int32.ofInt 3).toNatClampNeg = 3 from rfl)).trans (rfl)) k
    have k := ly_revb 1 (c' := (if (J (p 4) 3) ≤ v3 then 41 else 14, [(0, .ref (p 0)), (1, .int v1), (2, .int v2), (3, .int v3)], [], me_w M J)) rfl k
    have h11 : (J (p 4) 3) ≤ v3 := lx_end hc
    rw [if_pos h11] at k
    have k := ly_revb 1 (c' := (42, [(0, .ref (p 0)), (1, .int v1), (2, .int v2), (3, .int v3)], [.int v2], me_w M J)) rfl k
    have k := lz_ri rfl (by decide) k
    rw [k, x213_4]
  | succ c ih =>
    intro v2 v3 hc k
    have k := ly_revb 2 (c' := (6, [(0, .ref (p 0)), (1, .int v1), (2, .int v2), (3, .int v3)], [.ref (p 0), .int v3], me_w M J)) rfl k
    have k := lz_get (a := (p 0)) (g := 1127) (M := me_w M J) (v := .ref (p 4)) rfl (nt_gfR rfl (hp.1 (0, 27, 4) (by decide))) k
    have k := ly_revb 1 (c' := (10, [(0, .ref (p 0)), (1, .int v1), (2, .int v2), (3, .int v3)], [.int (Int32.ofInt 3), .ref (p 4), .int v3], me_w M J)) rfl k
    have k := mx_iald (v := J (p 4) 3) rfl (hp.2.2.1 4 (by omega)) ((congrArg (J (p 4)) (show (Int32.ofInt 3).toNatClampNeg = 3 from rfl)).trans (rfl)) k
    have k := ly_revb 1 (c' := (if (J (p 4) 3) ≤ v3 then 41 else 14, [(0, .ref (p 0)), (1, .int v1), (2, .int v2), (3, .int v3)], [], me_w M J)) rfl k
    by_cases h11 : (J (p 4) 3) ≤ v3
    · rw [if_pos h11] at k
      have k := ly_revb 1 (c' := (42, [(0, .ref (p 0)), (1, .int v1), (2, .int v2), (3, .int v3)], [.int v2], me_w M J)) rfl k
      have k := lz_ri rfl (by decide) k
      rw [k, x213_4, if_pos h11]
    · rw [if_neg h11] at k
      have k := ly_revb 3 (c' := (17, [(0, .ref (p 0)), (1, .int v1), (2, .int v2), (3, .int v3)], [.int v3, .int v1, .int v2], me_w M J)) rfl k
      obtain ⟨d1, o1, ed, kc, k⟩ := lz_c (g := 209) (q := 0) (vs := [.int v1, .int v3]) (rest := [.int v2]) rfl rfl (by decide) (Or.inl ⟨_, rfl, rfl⟩) rfl k
      have e1 := xt209  kc
      subst e1
      have k : nt_rn X _ 213 (20, [(0, .ref (p 0)), (1, .int v1), (2, .int v2), (3, .int v3)], [.int (x209 v1 v3), .int v2], me_w M J) _ := k
      have k := ly_revb 1 (c' := (if (x209 v1 v3) = 0 then 32 else 23, [(0, .ref (p 0)), (1, .int v1), (2, .int v2), (3, .int v3)], [.int v2], me_w M J)) rfl k
      by_cases h20 : (x209 v1 v3) = 0
      · rw [if_pos h20] at k
        have k := ly_revb 5 (c' := (4, [(3, .int (v3 + (Int32.ofInt 1))), (2, .int (v2 + (Int32.ofInt 0))), (0, .ref (p 0)), (1, .int v1)], [], me_w M J)) rfl k
        have k := nt_rn_w (a := [(3, .int (v3 + (Int32.ofInt 1))), (2, .int (v2 + (Int32.ofInt 0))), (0, .ref (p 0)), (1, .int v1)]) (b := [(0, .ref (p 0)), (1, .int v1), (2, .int (v2 + (Int32.ofInt 0))), (3, .int (v3 + (Int32.ofInt 1)))]) ⟨rfl, rfl, rfl, rfl, trivial⟩ rfl k
        have k := ih (v2 + (Int32.ofInt 0)) (v3 + (Int32.ofInt 1)) (lx_dec h11 hc) k
        rw [k, x213_4, if_neg h11, if_pos h20]
      · rw [if_neg h20] at k
        have k := ly_revb 3 (c' := (26, [(0, .ref (p 0)), (1, .int v1), (2, .int v2), (3, .int v3)], [.int (Int32.ofInt 3), .int v3, .ref (p 0), .int v2], me_w M J)) rfl k
        obtain ⟨d1, o1, ed, kc, k⟩ := lz_c (g := 180) (q := 1) (vs := [.ref (p 0), .int v3, .int (Int32.ofInt 3)]) (rest := [.int v2]) rfl rfl (by decide) (Or.inr (Or.inl ⟨_, rfl, rfl⟩)) rfl k
        have e1 := xt180 hp kc
        subst e1
        have k : nt_rn X _ 213 (29, [(0, .ref (p 0)), (1, .int v1), (2, .int v2), (3, .int v3)], [.int (x180 p v3 (Int32.ofInt 3) J), .int v2], me_w M J) _ := k
        have k := ly_revb 5 (c' := (4, [(3, .int (v3 + (Int32.ofInt 1))), (2, .int (v2 + (x180 p v3 (Int32.ofInt 3) J))), (0, .ref (p 0)), (1, .int v1)], [], me_w M J)) rfl k
        have k := nt_rn_w (a := [(3, .int (v3 + (Int32.ofInt 1))), (2, .int (v2 + (x180 p v3 (Int32.ofInt 3) J))), (0, .ref (p 0)), (1, .int v1)]) (b := [(0, .ref (p 0)), (1, .int v1), (2, .int (v2 + (x180 p v3 (Int32.ofInt 3) J))), (3, .int (v3 + (Int32.ofInt 1)))]) ⟨rfl, rfl, rfl, rfl, trivial⟩ rfl k
        have k := ih (v2 + (x180 p v3 (Int32.ofInt 3) J)) (v3 + (Int32.ofInt 1)) (lx_dec h11 hc) k
        rw [k, x213_4, if_neg h11, if_neg h20]
theorem x213_4_rule {p : Nat → Nat} {v1 : Int32} {J : Nat → Nat → Int32} {I : Nat → Int32 → Int32 → Prop} {Q : Int32 → Prop} (h0 : ∀ (v2 : Int32) (v3 : Int32), I 0 v2 v3 → Q v2) (h1 : ∀ (c : Nat) (v2 : Int32) (v3 : Int32), I (c + 1) v2 v3 →
    if (J (p 4) 3) ≤ v3 then (Q v2)
    else if (x209 v1 v3) = 0 then (I c (v2 + (Int32.ofInt 0)) (v3 + (Int32.ofInt 1)))
      else (I c (v2 + (x180 p v3 (Int32.ofInt 3) J)) (v3 + (Int32.ofInt 1)))) : ∀ (c : Nat) (v2 : Int32) (v3 : Int32), I c v2 v3 → Q (x213_4 p v1 J c v2 v3) := by
  intro c
  induction c with
  | zero =>
    intro v2 v3 hi
    rw [x213_4]
    exact h0 v2 v3 hi
  | succ c ih =>
    intro v2 v3 hi
    have hi := h1 c v2 v3 hi
    rw [x213_4]
    by_cases h : (J (p 4) 3) ≤ v3
    · rw [if_pos h] at hi ⊢
      exact hi
    · rw [if_neg h] at hi ⊢
      by_cases h : (x209 v1 v3) = 0
      · rw [if_pos h] at hi ⊢
        exact ih _ _ hi
      · rw [if_neg h] at hi ⊢
        exact ih _ _ hi
def x213 (p : Nat → Nat) (v1 : Int32) (J : Nat → Nat → Int32) : Int32 := (x213_4 p v1 J ((J (p 4) 3).toNatClampNeg) (Int32.ofInt 0) (Int32.ofInt 0))
theorem xt213 {X : nt_X} {d : Nat} {M : nt_M} {o : Option Value × nt_M} {p : Nat → Nat} {v1 : Int32} {J : Nat → Nat → Int32} (hp : xs_P M p) (k : nt_ev X d 213 [.ref (p 0), .int v1] (me_w M J) o) : o = (some (.int (x213 p v1 J)), me_w M J) := by
  have k : nt_rn X d 213 (0, [(0, .ref (p 0)), (1, .int v1)], [], me_w M J) o := k
  have k := ly_revb 4 (c' := (4, [(3, .int (Int32.ofInt 0)), (2, .int (Int32.ofInt 0)), (0, .ref (p 0)), (1, .int v1)], [], me_w M J)) rfl k
  have k := nt_rn_w (a := [(3, .int (Int32.ofInt 0)), (2, .int (Int32.ofInt 0)), (0, .ref (p 0)), (1, .int v1)]) (b := [(0, .ref (p 0)), (1, .int v1), (2, .int (Int32.ofInt 0)), (3, .int (Int32.ofInt 0))]) ⟨rfl, rfl, rfl, rfl, trivial⟩ rfl k
  have k := xt213_4 hp  ((J (p 4) 3).toNatClampNeg) (Int32.ofInt 0) (Int32.ofInt 0) (lx_beg (by decide)) k
  rw [k, x213]
/-! Model.most -/
def x212_23 (p : Nat → Nat) (v1 : Int32) (J : Nat → Nat → Int32) : Nat → Int32 → Int32 → Int32
  | 0, v2, v3 => if v1 = 0 then (x213 p v2 J)
    else v2
  | c + 1, v2, v3 => if ((Int32.ofInt 1) <<< ((J (p 4) 3) &&& 31)) ≤ v3 then if v1 = 0 then (x213 p v2 J)
      else v2
    else if (x213 p v2 J) < (x213 p v3 J) then if 0 ≤ (x206 p v3 J) then (x212_23 p v1 J c v2 (v3 + (Int32.ofInt 1)))
        else (x212_23 p v1 J c v3 (v3 + (Int32.ofInt 1)))
      else if (x213 p v3 J) = (x213 p v2 J) then if (x214 v2) ≤ (x214 v3) then (x212_23 p v1 J c v2 (v3 + (Int32.ofInt 1)))
          else if 0 ≤ (x206 p v3 J) then (x212_23 p v1 J c v2 (v3 + (Int32.ofInt 1)))
            else (x212_23 p v1 J c v3 (v3 + (Int32.ofInt 1)))
        else (x212_23 p v1 J c v2 (v3 + (Int32.ofInt 1)))
theorem xt212_23 {X : nt_X} {d : Nat} {M : nt_M} {o : Option Value × nt_M} {p : Nat → Nat} {v1 : Int32} {J : Nat → Nat → Int32} (hp : xs_P M p) : ∀ (c : Nat) (v2 : Int32) (v3 : Int32) (v4 : Int32), ((Int32.ofInt 1) <<< ((J (p 4) 3) &&& 31)).toInt - v3.toInt ≤ c → nt_rn X d 212 (23, [(0, .ref (p 0)), (1, .int v1), (2, .int v2), (3, .int v3), (4, .int v4)], [], me_w M J) o → o = (some (.int (x212_23 p v1 J c v2 v3)), me_w M J) := by
  intro c
  induction c with
  | zero =>
    intro v2 v3 v4 hc k
    have k := ly_revb 3 (c' := (26, [(0, .ref (p 0)), (1, .int v1), (2, .int v2), (3, .int v3), (4, .int v4)], [.ref (p 0), .int (Int32.ofInt 1), .int v3], me_w M J)) rfl k
    have k := lz_get (a := (p 0)) (g := 1127) (M := me_w M J) (v := .ref (p 4)) rfl (nt_gfR rfl (hp.1 (0, 27, 4) (by decide))) k
    have k := ly_revb 1 (c' := (30, [(0, .ref (p 0)), (1, .int v1), (2, .int v2), (3, .int v3), (4, .int v4)], [.int (Int32.ofInt 3), .ref (p 4), .int (Int32.ofInt 1), .int v3], me_w M J)) rfl k
    have k := mx_iald (v := J (p 4) 3) rfl (hp.2.2.1 4 (by omega)) ((congrArg (J (p 4)) (show (Int32.ofInt 3).toNatClampNeg = 3 from rfl)).trans (rfl)) k
    have k := ly_revb 2 (c' := (if ((Int32.ofInt 1) <<< ((J (p 4) 3) &&& 31)) ≤ v3 then 100 else 35, [(0, .ref (p 0)), (1, .int v1), (2, .int v2), (3, .int v3), (4, .int v4)], [], me_w M J)) rfl k
    have h32 : ((Int32.ofInt 1) <<< ((J (p 4) 3) &&& 31)) ≤ v3 := lx_end hc
    rw [if_pos h32] at k
    have k := ly_revb 2 (c' := (if v1 = 0 then 104 else 112, [(0, .ref (p 0)), (1, .int v1), (2, .int v2), (3, .int v3), (4, .int v4)], [], me_w M J)) rfl k
    by_cases h101 : v1 = 0
    · rw [if_pos h101] at k
      have k := ly_revb 2 (c' := (106, [(0, .ref (p 0)), (1, .int v1), (2, .int v2), (3, .int v3), (4, .int v4)], [.int v2, .ref (p 0)], me_w M J)) rfl k
      obtain ⟨d1, o1, ed, kc, k⟩ := lz_c (g := 213) (q := 1) (vs := [.ref (p 0), .int v2]) (rest := []) rfl rfl (by decide) (Or.inr (Or.inl ⟨_, rfl, rfl⟩)) rfl k
      have e1 := xt213 hp kc
      subst e1
      have k : nt_rn X _ 212 (109, [(0, .ref (p 0)), (1, .int v1), (2, .int v2), (3, .int v3), (4, .int v4)], [.int (x213 p v2 J)], me_w M J) _ := k
      have k := ly_revb 1 (c' := (113, [(0, .ref (p 0)), (1, .int v1), (2, .int v2), (3, .int v3), (4, .int v4)], [.int (x213 p v2 J)], me_w M J)) rfl k
      have k := lz_ri rfl (by decide) k
      rw [k, x212_23, if_pos h101]
    · rw [if_neg h101] at k
      have k := ly_revb 1 (c' := (113, [(0, .ref (p 0)), (1, .int v1), (2, .int v2), (3, .int v3), (4, .int v4)], [.int v2], me_w M J)) rfl k
      have k := lz_ri rfl (by decide) k
      rw [k, x212_23, if_neg h101]
  | succ c ih =>
    intro v2 v3 v4 hc k
    have k := ly_revb 3 (c' := (26, [(0, .ref (p 0)), (1, .int v1), (2, .int v2), (3, .int v3), (4, .int v4)], [.ref (p 0), .int (Int32.ofInt 1), .int v3], me_w M J)) rfl k
    have k := lz_get (a := (p 0)) (g := 1127) (M := me_w M J) (v := .ref (p 4)) rfl (nt_gfR rfl (hp.1 (0, 27, 4) (by decide))) k
    have k := ly_revb 1 (c' := (30, [(0, .ref (p 0)), (1, .int v1), (2, .int v2), (3, .int v3), (4, .int v4)], [.int (Int32.ofInt 3), .ref (p 4), .int (Int32.ofInt 1), .int v3], me_w M J)) rfl k
    have k := mx_iald (v := J (p 4) 3) rfl (hp.2.2.1 4 (by omega)) ((congrArg (J (p 4)) (show (Int32.ofInt 3).toNatClampNeg = 3 from rfl)).trans (rfl)) k
    have k := ly_revb 2 (c' := (if ((Int32.ofInt 1) <<< ((J (p 4) 3) &&& 31)) ≤ v3 then 100 else 35, [(0, .ref (p 0)), (1, .int v1), (2, .int v2), (3, .int v3), (4, .int v4)], [], me_w M J)) rfl k
    by_cases h32 : ((Int32.ofInt 1) <<< ((J (p 4) 3) &&& 31)) ≤ v3
    · rw [if_pos h32] at k
      have k := ly_revb 2 (c' := (if v1 = 0 then 104 else 112, [(0, .ref (p 0)), (1, .int v1), (2, .int v2), (3, .int v3), (4, .int v4)], [], me_w M J)) rfl k
      by_cases h101 : v1 = 0
      · rw [if_pos h101] at k
        have k := ly_revb 2 (c' := (106, [(0, .ref (p 0)), (1, .int v1), (2, .int v2), (3, .int v3), (4, .int v4)], [.int v2, .ref (p 0)], me_w M J)) rfl k
        obtain ⟨d1, o1, ed, kc, k⟩ := lz_c (g := 213) (q := 1) (vs := [.ref (p 0), .int v2]) (rest := []) rfl rfl (by decide) (Or.inr (Or.inl ⟨_, rfl, rfl⟩)) rfl k
        have e1 := xt213 hp kc
        subst e1
        have k : nt_rn X _ 212 (109, [(0, .ref (p 0)), (1, .int v1), (2, .int v2), (3, .int v3), (4, .int v4)], [.int (x213 p v2 J)], me_w M J) _ := k
        have k := ly_revb 1 (c' := (113, [(0, .ref (p 0)), (1, .int v1), (2, .int v2), (3, .int v3), (4, .int v4)], [.int (x213 p v2 J)], me_w M J)) rfl k
        have k := lz_ri rfl (by decide) k
        rw [k, x212_23, if_pos h32, if_pos h101]
      · rw [if_neg h101] at k
        have k := ly_revb 1 (c' := (113, [(0, .ref (p 0)), (1, .int v1), (2, .int v2), (3, .int v3), (4, .int v4)], [.int v2], me_w M J)) rfl k
        have k := lz_ri rfl (by decide) k
        rw [k, x212_23, if_pos h32, if_neg h101]
    · rw [if_neg h32] at k
      have k := ly_revb 2 (c' := (37, [(0, .ref (p 0)), (1, .int v1), (2, .int v2), (3, .int v3), (4, .int v4)], [.int v3, .ref (p 0)], me_w M J)) rfl k
      obtain ⟨d1, o1, ed, kc, k⟩ := lz_c (g := 213) (q := 1) (vs := [.ref (p 0), .int v3]) (rest := []) rfl rfl (by decide) (Or.inr (Or.inl ⟨_, rfl, rfl⟩)) rfl k
      have e1 := xt213 hp kc
      subst e1
      have k : nt_rn X _ 212 (40, [(0, .ref (p 0)), (1, .int v1), (2, .int v2), (3, .int v3), (4, .int v4)], [.int (x213 p v3 J)], me_w M J) _ := k
      have k := ly_revb 2 (c' := (42, [(0, .ref (p 0)), (1, .int v1), (2, .int v2), (3, .int v3), (4, .int v4)], [.int v2, .ref (p 0), .int (x213 p v3 J)], me_w M J)) rfl k
      obtain ⟨d1, o1, ed, kc, k⟩ := lz_c (g := 213) (q := 1) (vs := [.ref (p 0), .int v2]) (rest := [.int (x213 p v3 J)]) rfl rfl (by decide) (Or.inr (Or.inl ⟨_, rfl, rfl⟩)) rfl k
      have e1 := xt213 hp kc
      subst e1
      have k : nt_rn X _ 212 (45, [(0, .ref (p 0)), (1, .int v1), (2, .int v2), (3, .int v3), (4, .int v4)], [.int (x213 p v2 J), .int (x213 p v3 J)], me_w M J) _ := k
      have k := ly_revb 1 (c' := (if (x213 p v2 J) < (x213 p v3 J) then 72 else 48, [(0, .ref (p 0)), (1, .int v1), (2, .int v2), (3, .int v3), (4, .int v4)], [], me_w M J)) rfl k
      by_cases h45 : (x213 p v2 J) < (x213 p v3 J)
      · rw [if_pos h45] at k
        have k := ly_revb 5 (c' := (if (Int32.ofInt 1) = 0 then 94 else 84, [(4, .int (Int32.ofInt 1)), (0, .ref (p 0)), (1, .int v1), (2, .int v2), (3, .int v3)], [], me_w M J)) rfl k
        rw [if_neg (show ¬ ((Int32.ofInt 1) = 0) from by decide)] at k
        have k := ly_revb 2 (c' := (86, [(4, .int (Int32.ofInt 1)), (0, .ref (p 0)), (1, .int v1), (2, .int v2), (3, .int v3)], [.int v3, .ref (p 0)], me_w M J)) rfl k
        obtain ⟨d1, o1, ed, kc, k⟩ := lz_c (g := 206) (q := 1) (vs := [.ref (p 0), .int v3]) (rest := []) rfl rfl (by decide) (Or.inr (Or.inl ⟨_, rfl, rfl⟩)) rfl k
        have e1 := xt206 hp kc
        subst e1
        have k : nt_rn X _ 212 (89, [(4, .int (Int32.ofInt 1)), (0, .ref (p 0)), (1, .int v1), (2, .int v2), (3, .int v3)], [.int (x206 p v3 J)], me_w M J) _ := k
        have k := ly_revb 1 (c' := (if 0 ≤ (x206 p v3 J) then 94 else 92, [(4, .int (Int32.ofInt 1)), (0, .ref (p 0)), (1, .int v1), (2, .int v2), (3, .int v3)], [], me_w M J)) rfl k
        by_cases h89 : 0 ≤ (x206 p v3 J)
        · rw [if_pos h89] at k
          have k := ly_revb 2 (c' := (23, [(3, .int (v3 + (Int32.ofInt 1))), (4, .int (Int32.ofInt 1)), (0, .ref (p 0)), (1, .int v1), (2, .int v2)], [], me_w M J)) rfl k
          have k := nt_rn_w (a := [(3, .int (v3 + (Int32.ofInt 1))), (4, .int (Int32.ofInt 1)), (0, .ref (p 0)), (1, .int v1), (2, .int v2)]) (b := [(0, .ref (p 0)), (1, .int v1), (2, .int v2), (3, .int (v3 + (Int32.ofInt 1))), (4, .int (Int32.ofInt 1))]) ⟨rfl, rfl, rfl, rfl, rfl, trivial⟩ rfl k
          have k := ih v2 (v3 + (Int32.ofInt 1)) (Int32.ofInt 1) (lx_dec h32 hc) k
          rw [k, x212_23, if_neg h32, if_pos h45, if_pos h89]
        · rw [if_neg h89] at k
          have k := ly_revb 4 (c' := (23, [(3, .int (v3 + (Int32.ofInt 1))), (2, .int v3), (4, .int (Int32.ofInt 1)), (0, .ref (p 0)), (1, .int v1)], [], me_w M J)) rfl k
          have k := nt_rn_w (a := [(3, .int (v3 + (Int32.ofInt 1))), (2, .int v3), (4, .int (Int32.ofInt 1)), (0, .ref (p 0)), (1, .int v1)]) (b := [(0, .ref (p 0)), (1, .int v1), (2, .int v3), (3, .int (v3 + (Int32.ofInt 1))), (4, .int (Int32.ofInt 1))]) ⟨rfl, rfl, rfl, rfl, rfl, trivial⟩ rfl k
          have k := ih v3 (v3 + (Int32.ofInt 1)) (Int32.ofInt 1) (lx_dec h32 hc) k
          rw [k, x212_23, if_neg h32, if_pos h45, if_neg h89]
      · rw [if_neg h45] at k
        have k := ly_revb 2 (c' := (50, [(0, .ref (p 0)), (1, .int v1), (2, .int v2), (3, .int v3), (4, .int v4)], [.int v3, .ref (p 0)], me_w M J)) rfl k
        obtain ⟨d1, o1, ed, kc, k⟩ := lz_c (g := 213) (q := 1) (vs := [.ref (p 0), .int v3]) (rest := []) rfl rfl (by decide) (Or.inr (Or.inl ⟨_, rfl, rfl⟩)) rfl k
        have e1 := xt213 hp kc
        subst e1
        have k : nt_rn X _ 212 (53, [(0, .ref (p 0)), (1, .int v1), (2, .int v2), (3, .int v3), (4, .int v4)], [.int (x213 p v3 J)], me_w M J) _ := k
        have k := ly_revb 2 (c' := (55, [(0, .ref (p 0)), (1, .int v1), (2, .int v2), (3, .int v3), (4, .int v4)], [.int v2, .ref (p 0), .int (x213 p v3 J)], me_w M J)) rfl k
        obtain ⟨d1, o1, ed, kc, k⟩ := lz_c (g := 213) (q := 1) (vs := [.ref (p 0), .int v2]) (rest := [.int (x213 p v3 J)]) rfl rfl (by decide) (Or.inr (Or.inl ⟨_, rfl, rfl⟩)) rfl k
        have e1 := xt213 hp kc
        subst e1
        have k : nt_rn X _ 212 (58, [(0, .ref (p 0)), (1, .int v1), (2, .int v2), (3, .int v3), (4, .int v4)], [.int (x213 p v2 J), .int (x213 p v3 J)], me_w M J) _ := k
        have k := ly_revb 1 (c' := (if (x213 p v3 J) = (x213 p v2 J) then 61 else 76, [(0, .ref (p 0)), (1, .int v1), (2, .int v2), (3, .int v3), (4, .int v4)], [], me_w M J)) rfl k
        by_cases h58 : (x213 p v3 J) = (x213 p v2 J)
        · rw [if_pos h58] at k
          have k := ly_revb 1 (c' := (62, [(0, .ref (p 0)), (1, .int v1), (2, .int v2), (3, .int v3), (4, .int v4)], [.int v3], me_w M J)) rfl k
          obtain ⟨d1, o1, ed, kc, k⟩ := lz_c (g := 214) (q := 0) (vs := [.int v3]) (rest := []) rfl rfl (by decide) (Or.inl ⟨_, rfl, rfl⟩) rfl k
          have e1 := xt214  kc
          subst e1
          have k : nt_rn X _ 212 (65, [(0, .ref (p 0)), (1, .int v1), (2, .int v2), (3, .int v3), (4, .int v4)], [.int (x214 v3)], me_w M J) _ := k
          have k := ly_revb 1 (c' := (66, [(0, .ref (p 0)), (1, .int v1), (2, .int v2), (3, .int v3), (4, .int v4)], [.int v2, .int (x214 v3)], me_w M J)) rfl k
          obtain ⟨d1, o1, ed, kc, k⟩ := lz_c (g := 214) (q := 0) (vs := [.int v2]) (rest := [.int (x214 v3)]) rfl rfl (by decide) (Or.inl ⟨_, rfl, rfl⟩) rfl k
          have e1 := xt214  kc
          subst e1
          have k : nt_rn X _ 212 (69, [(0, .ref (p 0)), (1, .int v1), (2, .int v2), (3, .int v3), (4, .int v4)], [.int (x214 v2), .int (x214 v3)], me_w M J) _ := k
          have k := ly_revb 1 (c' := (if (x214 v2) ≤ (x214 v3) then 76 else 72, [(0, .ref (p 0)), (1, .int v1), (2, .int v2), (3, .int v3), (4, .int v4)], [], me_w M J)) rfl k
          by_cases h69 : (x214 v2) ≤ (x214 v3)
          · rw [if_pos h69] at k
            have k := ly_revb 4 (c' := (if (Int32.ofInt 0) = 0 then 94 else 84, [(4, .int (Int32.ofInt 0)), (0, .ref (p 0)), (1, .int v1), (2, .int v2), (3, .int v3)], [], me_w M J)) rfl k
            rw [if_pos (show (Int32.ofInt 0) = 0 from by decide)] at k
            have k := ly_revb 2 (c' := (23, [(3, .int (v3 + (Int32.ofInt 1))), (4, .int (Int32.ofInt 0)), (0, .ref (p 0)), (1, .int v1), (2, .int v2)], [], me_w M J)) rfl k
            have k := nt_rn_w (a := [(3, .int (v3 + (Int32.ofInt 1))), (4, .int (Int32.ofInt 0)), (0, .ref (p 0)), (1, .int v1), (2, .int v2)]) (b := [(0, .ref (p 0)), (1, .int v1), (2, .int v2), (3, .int (v3 + (Int32.ofInt 1))), (4, .int (Int32.ofInt 0))]) ⟨rfl, rfl, rfl, rfl, rfl, trivial⟩ rfl k
            have k := ih v2 (v3 + (Int32.ofInt 1)) (Int32.ofInt 0) (lx_dec h32 hc) k
            rw [k, x212_23, if_neg h32, if_neg h45, if_pos h58, if_pos h69]
          · rw [if_neg h69] at k
            have k := ly_revb 5 (c' := (if (Int32.ofInt 1) = 0 then 94 else 84, [(4, .int (Int32.ofInt 1)), (0, .ref (p 0)), (1, .int v1), (2, .int v2), (3, .int v3)], [], me_w M J)) rfl k
            rw [if_neg (show ¬ ((Int32.ofInt 1) = 0) from by decide)] at k
            have k := ly_revb 2 (c' := (86, [(4, .int (Int32.ofInt 1)), (0, .ref (p 0)), (1, .int v1), (2, .int v2), (3, .int v3)], [.int v3, .ref (p 0)], me_w M J)) rfl k
            obtain ⟨d1, o1, ed, kc, k⟩ := lz_c (g := 206) (q := 1) (vs := [.ref (p 0), .int v3]) (rest := []) rfl rfl (by decide) (Or.inr (Or.inl ⟨_, rfl, rfl⟩)) rfl k
            have e1 := xt206 hp kc
            subst e1
            have k : nt_rn X _ 212 (89, [(4, .int (Int32.ofInt 1)), (0, .ref (p 0)), (1, .int v1), (2, .int v2), (3, .int v3)], [.int (x206 p v3 J)], me_w M J) _ := k
            have k := ly_revb 1 (c' := (if 0 ≤ (x206 p v3 J) then 94 else 92, [(4, .int (Int32.ofInt 1)), (0, .ref (p 0)), (1, .int v1), (2, .int v2), (3, .int v3)], [], me_w M J)) rfl k
            by_cases h89 : 0 ≤ (x206 p v3 J)
            · rw [if_pos h89] at k
              have k := ly_revb 2 (c' := (23, [(3, .int (v3 + (Int32.ofInt 1))), (4, .int (Int32.ofInt 1)), (0, .ref (p 0)), (1, .int v1), (2, .int v2)], [], me_w M J)) rfl k
              have k := nt_rn_w (a := [(3, .int (v3 + (Int32.ofInt 1))), (4, .int (Int32.ofInt 1)), (0, .ref (p 0)), (1, .int v1), (2, .int v2)]) (b := [(0, .ref (p 0)), (1, .int v1), (2, .int v2), (3, .int (v3 + (Int32.ofInt 1))), (4, .int (Int32.ofInt 1))]) ⟨rfl, rfl, rfl, rfl, rfl, trivial⟩ rfl k
              have k := ih v2 (v3 + (Int32.ofInt 1)) (Int32.ofInt 1) (lx_dec h32 hc) k
              rw [k, x212_23, if_neg h32, if_neg h45, if_pos h58, if_neg h69, if_pos h89]
            · rw [if_neg h89] at k
              have k := ly_revb 4 (c' := (23, [(3, .int (v3 + (Int32.ofInt 1))), (2, .int v3), (4, .int (Int32.ofInt 1)), (0, .ref (p 0)), (1, .int v1)], [], me_w M J)) rfl k
              have k := nt_rn_w (a := [(3, .int (v3 + (Int32.ofInt 1))), (2, .int v3), (4, .int (Int32.ofInt 1)), (0, .ref (p 0)), (1, .int v1)]) (b := [(0, .ref (p 0)), (1, .int v1), (2, .int v3), (3, .int (v3 + (Int32.ofInt 1))), (4, .int (Int32.ofInt 1))]) ⟨rfl, rfl, rfl, rfl, rfl, trivial⟩ rfl k
              have k := ih v3 (v3 + (Int32.ofInt 1)) (Int32.ofInt 1) (lx_dec h32 hc) k
              rw [k, x212_23, if_neg h32, if_neg h45, if_pos h58, if_neg h69, if_neg h89]
        · rw [if_neg h58] at k
          have k := ly_revb 4 (c' := (if (Int32.ofInt 0) = 0 then 94 else 84, [(4, .int (Int32.ofInt 0)), (0, .ref (p 0)), (1, .int v1), (2, .int v2), (3, .int v3)], [], me_w M J)) rfl k
          rw [if_pos (show (Int32.ofInt 0) = 0 from by decide)] at k
          have k := ly_revb 2 (c' := (23, [(3, .int (v3 + (Int32.ofInt 1))), (4, .int (Int32.ofInt 0)), (0, .ref (p 0)), (1, .int v1), (2, .int v2)], [], me_w M J)) rfl k
          have k := nt_rn_w (a := [(3, .int (v3 + (Int32.ofInt 1))), (4, .int (Int32.ofInt 0)), (0, .ref (p 0)), (1, .int v1), (2, .int v2)]) (b := [(0, .ref (p 0)), (1, .int v1), (2, .int v2), (3, .int (v3 + (Int32.ofInt 1))), (4, .int (Int32.ofInt 0))]) ⟨rfl, rfl, rfl, rfl, rfl, trivial⟩ rfl k
          have k := ih v2 (v3 + (Int32.ofInt 1)) (Int32.ofInt 0) (lx_dec h32 hc) k
          rw [k, x212_23, if_neg h32, if_neg h45, if_neg h58]
theorem x212_23_rule {p : Nat → Nat} {v1 : Int32} {J : Nat → Nat → Int32} {I : Nat → Int32 → Int32 → Prop} {Q : Int32 → Prop} (h0 : ∀ (v2 : Int32) (v3 : Int32), I 0 v2 v3 → Q (if v1 = 0 then (x213 p v2 J)
    else v2)) (h1 : ∀ (c : Nat) (v2 : Int32) (v3 : Int32), I (c + 1) v2 v3 →
    if ((Int32.ofInt 1) <<< ((J (p 4) 3) &&& 31)) ≤ v3 then if v1 = 0 then (Q (x213 p v2 J))
      else (Q v2)
    else if (x213 p v2 J) < (x213 p v3 J) then if 0 ≤ (x206 p v3 J) then (I c v2 (v3 + (Int32.ofInt 1)))
        else (I c v3 (v3 + (Int32.ofInt 1)))
      else if (x213 p v3 J) = (x213 p v2 J) then if (x214 v2) ≤ (x214 v3) then (I c v2 (v3 + (Int32.ofInt 1)))
          else if 0 ≤ (x206 p v3 J) then (I c v2 (v3 + (Int32.ofInt 1)))
            else (I c v3 (v3 + (Int32.ofInt 1)))
        else (I c v2 (v3 + (Int32.ofInt 1)))) : ∀ (c : Nat) (v2 : Int32) (v3 : Int32), I c v2 v3 → Q (x212_23 p v1 J c v2 v3) := by
  intro c
  induction c with
  | zero =>
    intro v2 v3 hi
    rw [x212_23]
    exact h0 v2 v3 hi
  | succ c ih =>
    intro v2 v3 hi
    have hi := h1 c v2 v3 hi
    rw [x212_23]
    by_cases h : ((Int32.ofInt 1) <<< ((J (p 4) 3) &&& 31)) ≤ v3
    · rw [if_pos h] at hi ⊢
      by_cases h : v1 = 0
      · rw [if_pos h] at hi ⊢
        exact hi
      · rw [if_neg h] at hi ⊢
        exact hi
    · rw [if_neg h] at hi ⊢
      by_cases h : (x213 p v2 J) < (x213 p v3 J)
      · rw [if_pos h] at hi ⊢
        by_cases h : 0 ≤ (x206 p v3 J)
        · rw [if_pos h] at hi ⊢
          exact ih _ _ hi
        · rw [if_neg h] at hi ⊢
          exact ih _ _ hi
      · rw [if_neg h] at hi ⊢
        by_cases h : (x213 p v3 J) = (x213 p v2 J)
        · rw [if_pos h] at hi ⊢
          by_cases h : (x214 v2) ≤ (x214 v3)
          · rw [if_pos h] at hi ⊢
            exact ih _ _ hi
          · rw [if_neg h] at hi ⊢
            by_cases h : 0 ≤ (x206 p v3 J)
            · rw [if_pos h] at hi ⊢
              exact ih _ _ hi
            · rw [if_neg h] at hi ⊢
              exact ih _ _ hi
        · rw [if_neg h] at hi ⊢
          exact ih _ _ hi
def x212 (p : Nat → Nat) (v1 : Int32) (J : Nat → Nat → Int32) : Int32 := if (x188 p J) = 0 then (Int32.ofInt (-1))
  else if (x145 v1.toInt64 (Int64.ofNat 0) (Int64.ofNat 1)) = 0 then (Int32.ofInt (-1))
    else (x212_23 p v1 J (((Int32.ofInt 1) <<< ((J (p 4) 3) &&& 31)).toNatClampNeg) (Int32.ofInt 0) (Int32.ofInt 1))
theorem xt212 {X : nt_X} {d : Nat} {M : nt_M} {o : Option Value × nt_M} {p : Nat → Nat} {v1 : Int32} {J : Nat → Nat → Int32} (hp : xs_P M p) (k : nt_ev X d 212 [.ref (p 0), .int v1] (me_w M J) o) : o = (some (.int (x212 p v1 J)), me_w M J) := by
  have k : nt_rn X d 212 (0, [(0, .ref (p 0)), (1, .int v1)], [], me_w M J) o := k
  have k := ly_revb 1 (c' := (1, [(0, .ref (p 0)), (1, .int v1)], [.ref (p 0)], me_w M J)) rfl k
  obtain ⟨d1, o1, ed, kc, k⟩ := lz_c (g := 188) (q := 1) (vs := [.ref (p 0)]) (rest := []) rfl rfl (by decide) (Or.inr (Or.inl ⟨_, rfl, rfl⟩)) rfl k
  have e1 := xt188 hp kc
  subst e1
  have k : nt_rn X _ 212 (4, [(0, .ref (p 0)), (1, .int v1)], [.int (x188 p J)], me_w M J) _ := k
  have k := ly_revb 1 (c' := (if (x188 p J) = 0 then 17 else 7, [(0, .ref (p 0)), (1, .int v1)], [], me_w M J)) rfl k
  by_cases h4 : (x188 p J) = 0
  · rw [if_pos h4] at k
    have k := ly_revb 1 (c' := (18, [(0, .ref (p 0)), (1, .int v1)], [.int (Int32.ofInt (-1))], me_w M J)) rfl k
    have k := lz_ri rfl (by decide) k
    rw [k, x212, if_pos h4]
  · rw [if_neg h4] at k
    have k := ly_revb 4 (c' := (11, [(0, .ref (p 0)), (1, .int v1)], [.long (Int64.ofNat 1), .long (Int64.ofNat 0), .long v1.toInt64], me_w M J)) rfl k
    obtain ⟨d1, o1, ed, kc, k⟩ := lz_c (g := 145) (q := 0) (vs := [.long v1.toInt64, .long (Int64.ofNat 0), .long (Int64.ofNat 1)]) (rest := []) rfl rfl (by decide) (Or.inl ⟨_, rfl, rfl⟩) rfl k
    have e1 := xt145  kc
    subst e1
    have k : nt_rn X _ 212 (14, [(0, .ref (p 0)), (1, .int v1)], [.int (x145 v1.toInt64 (Int64.ofNat 0) (Int64.ofNat 1))], me_w M J) _ := k
    have k := ly_revb 1 (c' := (if (x145 v1.toInt64 (Int64.ofNat 0) (Int64.ofNat 1)) = 0 then 17 else 19, [(0, .ref (p 0)), (1, .int v1)], [], me_w M J)) rfl k
    by_cases h14 : (x145 v1.toInt64 (Int64.ofNat 0) (Int64.ofNat 1)) = 0
    · rw [if_pos h14] at k
      have k := ly_revb 1 (c' := (18, [(0, .ref (p 0)), (1, .int v1)], [.int (Int32.ofInt (-1))], me_w M J)) rfl k
      have k := lz_ri rfl (by decide) k
      rw [k, x212, if_neg h4, if_pos h14]
    · rw [if_neg h14] at k
      have k := ly_revb 4 (c' := (23, [(3, .int (Int32.ofInt 1)), (2, .int (Int32.ofInt 0)), (0, .ref (p 0)), (1, .int v1)], [], me_w M J)) rfl k
      have k := nt_rn_w (a := [(3, .int (Int32.ofInt 1)), (2, .int (Int32.ofInt 0)), (0, .ref (p 0)), (1, .int v1)]) (b := [(0, .ref (p 0)), (1, .int v1), (2, .int (Int32.ofInt 0)), (3, .int (Int32.ofInt 1)), (4, .int (Int32.ofInt 0))]) ⟨rfl, rfl, rfl, rfl, trivial⟩ rfl k
      have k := xt212_23 hp  (((Int32.ofInt 1) <<< ((J (p 4) 3) &&& 31)).toNatClampNeg) (Int32.ofInt 0) (Int32.ofInt 1) (Int32.ofInt 0) (lx_beg (by decide)) k
      rw [k, x212, if_neg h4, if_neg h14]
/-! Model.payFrom -/
def x224_4 (p : Nat → Nat) (v1 : Int32) (J : Nat → Nat → Int32) : Nat → Int32 → Int32 → Int32
  | 0, v2, v3 => v2
  | c + 1, v2, v3 => if (J (p 4) 3) ≤ v3 then v2
    else if (x209 v1 (x180 p v3 (Int32.ofInt 0) J)) = 0 then (x224_4 p v1 J c (v2 + (Int32.ofInt 0)) (v3 + (Int32.ofInt 1)))
      else if (x180 p v3 (Int32.ofInt 1) J) < (J (p 4) 4) then (x224_4 p v1 J c (v2 + (Int32.ofInt 0)) (v3 + (Int32.ofInt 1)))
        else (x224_4 p v1 J c (v2 + (x180 p v3 (Int32.ofInt 3) J)) (v3 + (Int32.ofInt 1)))
theorem xt224_4 {X : nt_X} {d : Nat} {M : nt_M} {o : Option Value × nt_M} {p : Nat → Nat} {v1 : Int32} {J : Nat → Nat → Int32} (hp : xs_P M p) : ∀ (c : Nat) (v2 : Int32) (v3 : Int32), (J (p 4) 3).toInt - v3.toInt ≤ c → nt_rn X d 224 (4, [(0, .ref (p 0)), (1, .int v1), (2, .int v2), (3, .int v3)], [], me_w M J) o → o = (some (.int (x224_4 p v1 J c v2 v3)), me_w M J) := by
  intro c
  induction c with
  | zero =>
    intro v2 v3 hc k
    have k := ly_revb 2 (c' := (6, [(0, .ref (p 0)), (1, .int v1), (2, .int v2), (3, .int v3)], [.ref (p 0), .int v3], me_w M J)) rfl k
    have k := lz_get (a := (p 0)) (g := 1127) (M := me_w M J) (v := .ref (p 4)) rfl (nt_gfR rfl (hp.1 (0, 27, 4) (by decide))) k
    have k := ly_revb 1 (c' := (10, [(0, .ref (p 0)), (1, .int v1), (2, .int v2), (3, .int v3)], [.int (Int32.ofInt 3), .ref (p 4), .int v3], me_w M J)) rfl k
    have k := mx_iald (v := J (p 4) 3) rfl (hp.2.2.1 4 (by omega)) ((congrArg (J (p 4)) (show (Int32.ofInt 3).toNatClampNeg = 3 from rfl)).trans (rfl)) k
    have k := ly_revb 1 (c' := (if (J (p 4) 3) ≤ v3 then 61 else 14, [(0, .ref (p 0)), (1, .int v1), (2, .int v2), (3, .int v3)], [], me_w M J)) rfl k
    have h11 : (J (p 4) 3) ≤ v3 := lx_end hc
    rw [if_pos h11] at k
    have k := ly_revb 1 (c' := (62, [(0, .ref (p 0)), (1, .int v1), (2, .int v2), (3, .int v3)], [.int v2], me_w M J)) rfl k
    have k := lz_ri rfl (by decide) k
    rw [k, x224_4]
  | succ c ih =>
    intro v2 v3 hc k
    have k := ly_revb 2 (c' := (6, [(0, .ref (p 0)), (1, .int v1), (2, .int v2), (3, .int v3)], [.ref (p 0), .int v3], me_w M J)) rfl k
    have k := lz_get (a := (p 0)) (g := 1127) (M := me_w M J) (v := .ref (p 4)) rfl (nt_gfR rfl (hp.1 (0, 27, 4) (by decide))) k
    have k := ly_revb 1 (c' := (10, [(0, .ref (p 0)), (1, .int v1), (2, .int v2), (3, .int v3)], [.int (Int32.ofInt 3), .ref (p 4), .int v3], me_w M J)) rfl k
    have k := mx_iald (v := J (p 4) 3) rfl (hp.2.2.1 4 (by omega)) ((congrArg (J (p 4)) (show (Int32.ofInt 3).toNatClampNeg = 3 from rfl)).trans (rfl)) k
    have k := ly_revb 1 (c' := (if (J (p 4) 3) ≤ v3 then 61 else 14, [(0, .ref (p 0)), (1, .int v1), (2, .int v2), (3, .int v3)], [], me_w M J)) rfl k
    by_cases h11 : (J (p 4) 3) ≤ v3
    · rw [if_pos h11] at k
      have k := ly_revb 1 (c' := (62, [(0, .ref (p 0)), (1, .int v1), (2, .int v2), (3, .int v3)], [.int v2], me_w M J)) rfl k
      have k := lz_ri rfl (by decide) k
      rw [k, x224_4, if_pos h11]
    · rw [if_neg h11] at k
      have k := ly_revb 5 (c' := (19, [(0, .ref (p 0)), (1, .int v1), (2, .int v2), (3, .int v3)], [.int (Int32.ofInt 0), .int v3, .ref (p 0), .int v1, .int v2], me_w M J)) rfl k
      obtain ⟨d1, o1, ed, kc, k⟩ := lz_c (g := 180) (q := 1) (vs := [.ref (p 0), .int v3, .int (Int32.ofInt 0)]) (rest := [.int v1, .int v2]) rfl rfl (by decide) (Or.inr (Or.inl ⟨_, rfl, rfl⟩)) rfl k
      have e1 := xt180 hp kc
      subst e1
      have k : nt_rn X _ 224 (22, [(0, .ref (p 0)), (1, .int v1), (2, .int v2), (3, .int v3)], [.int (x180 p v3 (Int32.ofInt 0) J), .int v1, .int v2], me_w M J) _ := k
      obtain ⟨d1, o1, ed, kc, k⟩ := lz_c (g := 209) (q := 0) (vs := [.int v1, .int (x180 p v3 (Int32.ofInt 0) J)]) (rest := [.int v2]) rfl rfl (by decide) (Or.inl ⟨_, rfl, rfl⟩) rfl k
      have e1 := xt209  kc
      subst e1
      have k : nt_rn X _ 224 (25, [(0, .ref (p 0)), (1, .int v1), (2, .int v2), (3, .int v3)], [.int (x209 v1 (x180 p v3 (Int32.ofInt 0) J)), .int v2], me_w M J) _ := k
      have k := ly_revb 1 (c' := (if (x209 v1 (x180 p v3 (Int32.ofInt 0) J)) = 0 then 52 else 28, [(0, .ref (p 0)), (1, .int v1), (2, .int v2), (3, .int v3)], [.int v2], me_w M J)) rfl k
      by_cases h25 : (x209 v1 (x180 p v3 (Int32.ofInt 0) J)) = 0
      · rw [if_pos h25] at k
        have k := ly_revb 5 (c' := (4, [(3, .int (v3 + (Int32.ofInt 1))), (2, .int (v2 + (Int32.ofInt 0))), (0, .ref (p 0)), (1, .int v1)], [], me_w M J)) rfl k
        have k := nt_rn_w (a := [(3, .int (v3 + (Int32.ofInt 1))), (2, .int (v2 + (Int32.ofInt 0))), (0, .ref (p 0)), (1, .int v1)]) (b := [(0, .ref (p 0)), (1, .int v1), (2, .int (v2 + (Int32.ofInt 0))), (3, .int (v3 + (Int32.ofInt 1)))]) ⟨rfl, rfl, rfl, rfl, trivial⟩ rfl k
        have k := ih (v2 + (Int32.ofInt 0)) (v3 + (Int32.ofInt 1)) (lx_dec h11 hc) k
        rw [k, x224_4, if_neg h11, if_pos h25]
      · rw [if_neg h25] at k
        have k := ly_revb 3 (c' := (31, [(0, .ref (p 0)), (1, .int v1), (2, .int v2), (3, .int v3)], [.int (Int32.ofInt 1), .int v3, .ref (p 0), .int v2], me_w M J)) rfl k
        obtain ⟨d1, o1, ed, kc, k⟩ := lz_c (g := 180) (q := 1) (vs := [.ref (p 0), .int v3, .int (Int32.ofInt 1)]) (rest := [.int v2]) rfl rfl (by decide) (Or.inr (Or.inl ⟨_, rfl, rfl⟩)) rfl k
        have e1 := xt180 hp kc
        subst e1
        have k : nt_rn X _ 224 (34, [(0, .ref (p 0)), (1, .int v1), (2, .int v2), (3, .int v3)], [.int (x180 p v3 (Int32.ofInt 1) J), .int v2], me_w M J) _ := k
        have k := ly_revb 1 (c' := (35, [(0, .ref (p 0)), (1, .int v1), (2, .int v2), (3, .int v3)], [.ref (p 0), .int (x180 p v3 (Int32.ofInt 1) J), .int v2], me_w M J)) rfl k
        have k := lz_get (a := (p 0)) (g := 1127) (M := me_w M J) (v := .ref (p 4)) rfl (nt_gfR rfl (hp.1 (0, 27, 4) (by decide))) k
        have k := ly_revb 1 (c' := (39, [(0, .ref (p 0)), (1, .int v1), (2, .int v2), (3, .int v3)], [.int (Int32.ofInt 4), .ref (p 4), .int (x180 p v3 (Int32.ofInt 1) J), .int v2], me_w M J)) rfl k
        have k := mx_iald (v := J (p 4) 4) rfl (hp.2.2.1 4 (by omega)) ((congrArg (J (p 4)) (show (Int32.ofInt 4).toNatClampNeg = 4 from rfl)).trans (rfl)) k
        have k := ly_revb 1 (c' := (if (x180 p v3 (Int32.ofInt 1) J) < (J (p 4) 4) then 52 else 43, [(0, .ref (p 0)), (1, .int v1), (2, .int v2), (3, .int v3)], [.int v2], me_w M J)) rfl k
        by_cases h40 : (x180 p v3 (Int32.ofInt 1) J) < (J (p 4) 4)
        · rw [if_pos h40] at k
          have k := ly_revb 5 (c' := (4, [(3, .int (v3 + (Int32.ofInt 1))), (2, .int (v2 + (Int32.ofInt 0))), (0, .ref (p 0)), (1, .int v1)], [], me_w M J)) rfl k
          have k := nt_rn_w (a := [(3, .int (v3 + (Int32.ofInt 1))), (2, .int (v2 + (Int32.ofInt 0))), (0, .ref (p 0)), (1, .int v1)]) (b := [(0, .ref (p 0)), (1, .int v1), (2, .int (v2 + (Int32.ofInt 0))), (3, .int (v3 + (Int32.ofInt 1)))]) ⟨rfl, rfl, rfl, rfl, trivial⟩ rfl k
          have k := ih (v2 + (Int32.ofInt 0)) (v3 + (Int32.ofInt 1)) (lx_dec h11 hc) k
          rw [k, x224_4, if_neg h11, if_neg h25, if_pos h40]
        · rw [if_neg h40] at k
          have k := ly_revb 3 (c' := (46, [(0, .ref (p 0)), (1, .int v1), (2, .int v2), (3, .int v3)], [.int (Int32.ofInt 3), .int v3, .ref (p 0), .int v2], me_w M J)) rfl k
          obtain ⟨d1, o1, ed, kc, k⟩ := lz_c (g := 180) (q := 1) (vs := [.ref (p 0), .int v3, .int (Int32.ofInt 3)]) (rest := [.int v2]) rfl rfl (by decide) (Or.inr (Or.inl ⟨_, rfl, rfl⟩)) rfl k
          have e1 := xt180 hp kc
          subst e1
          have k : nt_rn X _ 224 (49, [(0, .ref (p 0)), (1, .int v1), (2, .int v2), (3, .int v3)], [.int (x180 p v3 (Int32.ofInt 3) J), .int v2], me_w M J) _ := k
          have k := ly_revb 5 (c' := (4, [(3, .int (v3 + (Int32.ofInt 1))), (2, .int (v2 + (x180 p v3 (Int32.ofInt 3) J))), (0, .ref (p 0)), (1, .int v1)], [], me_w M J)) rfl k
          have k := nt_rn_w (a := [(3, .int (v3 + (Int32.ofInt 1))), (2, .int (v2 + (x180 p v3 (Int32.ofInt 3) J))), (0, .ref (p 0)), (1, .int v1)]) (b := [(0, .ref (p 0)), (1, .int v1), (2, .int (v2 + (x180 p v3 (Int32.ofInt 3) J))), (3, .int (v3 + (Int32.ofInt 1)))]) ⟨rfl, rfl, rfl, rfl, trivial⟩ rfl k
          have k := ih (v2 + (x180 p v3 (Int32.ofInt 3) J)) (v3 + (Int32.ofInt 1)) (lx_dec h11 hc) k
          rw [k, x224_4, if_neg h11, if_neg h25, if_neg h40]
theorem x224_4_rule {p : Nat → Nat} {v1 : Int32} {J : Nat → Nat → Int32} {I : Nat → Int32 → Int32 → Prop} {Q : Int32 → Prop} (h0 : ∀ (v2 : Int32) (v3 : Int32), I 0 v2 v3 → Q v2) (h1 : ∀ (c : Nat) (v2 : Int32) (v3 : Int32), I (c + 1) v2 v3 →
    if (J (p 4) 3) ≤ v3 then (Q v2)
    else if (x209 v1 (x180 p v3 (Int32.ofInt 0) J)) = 0 then (I c (v2 + (Int32.ofInt 0)) (v3 + (Int32.ofInt 1)))
      else if (x180 p v3 (Int32.ofInt 1) J) < (J (p 4) 4) then (I c (v2 + (Int32.ofInt 0)) (v3 + (Int32.ofInt 1)))
        else (I c (v2 + (x180 p v3 (Int32.ofInt 3) J)) (v3 + (Int32.ofInt 1)))) : ∀ (c : Nat) (v2 : Int32) (v3 : Int32), I c v2 v3 → Q (x224_4 p v1 J c v2 v3) := by
  intro c
  induction c with
  | zero =>
    intro v2 v3 hi
    rw [x224_4]
    exact h0 v2 v3 hi
  | succ c ih =>
    intro v2 v3 hi
    have hi := h1 c v2 v3 hi
    rw [x224_4]
    by_cases h : (J (p 4) 3) ≤ v3
    · rw [if_pos h] at hi ⊢
      exact hi
    · rw [if_neg h] at hi ⊢
      by_cases h : (x209 v1 (x180 p v3 (Int32.ofInt 0) J)) = 0
      · rw [if_pos h] at hi ⊢
        exact ih _ _ hi
      · rw [if_neg h] at hi ⊢
        by_cases h : (x180 p v3 (Int32.ofInt 1) J) < (J (p 4) 4)
        · rw [if_pos h] at hi ⊢
          exact ih _ _ hi
        · rw [if_neg h] at hi ⊢
          exact ih _ _ hi
def x224 (p : Nat → Nat) (v1 : Int32) (J : Nat → Nat → Int32) : Int32 := (x224_4 p v1 J ((J (p 4) 3).toNatClampNeg) (Int32.ofInt 0) (Int32.ofInt 0))
theorem xt224 {X : nt_X} {d : Nat} {M : nt_M} {o : Option Value × nt_M} {p : Nat → Nat} {v1 : Int32} {J : Nat → Nat → Int32} (hp : xs_P M p) (k : nt_ev X d 224 [.ref (p 0), .int v1] (me_w M J) o) : o = (some (.int (x224 p v1 J)), me_w M J) := by
  have k : nt_rn X d 224 (0, [(0, .ref (p 0)), (1, .int v1)], [], me_w M J) o := k
  have k := ly_revb 4 (c' := (4, [(3, .int (Int32.ofInt 0)), (2, .int (Int32.ofInt 0)), (0, .ref (p 0)), (1, .int v1)], [], me_w M J)) rfl k
  have k := nt_rn_w (a := [(3, .int (Int32.ofInt 0)), (2, .int (Int32.ofInt 0)), (0, .ref (p 0)), (1, .int v1)]) (b := [(0, .ref (p 0)), (1, .int v1), (2, .int (Int32.ofInt 0)), (3, .int (Int32.ofInt 0))]) ⟨rfl, rfl, rfl, rfl, trivial⟩ rfl k
  have k := xt224_4 hp  ((J (p 4) 3).toNatClampNeg) (Int32.ofInt 0) (Int32.ofInt 0) (lx_beg (by decide)) k
  rw [k, x224]
/-! Model.couldBe -/
def x225_55 (p : Nat → Nat) (v1 : Int32) (v2 : Int32) (J : Nat → Nat → Int32) : Nat → Int32 → Int32 → Int32
  | 0, v3, v4 => v3
  | c + 1, v3, v4 => if (J (p 4) 2) ≤ v4 then v3
    else if (x172 p v4 J) = 0 then (x225_55 p v1 v2 J c (v3 + (Int32.ofInt 0)) (v4 + (Int32.ofInt 1)))
      else if (x173 p v4 (Int32.ofInt 0) J) = v2 then (x225_55 p v1 v2 J c (v3 + (Int32.ofInt 1)) (v4 + (Int32.ofInt 1)))
        else (x225_55 p v1 v2 J c (v3 + (Int32.ofInt 0)) (v4 + (Int32.ofInt 1)))
theorem xt225_55 {X : nt_X} {d : Nat} {M : nt_M} {o : Option Value × nt_M} {p : Nat → Nat} {v1 : Int32} {v2 : Int32} {J : Nat → Nat → Int32} (hp : xs_P M p) : ∀ (c : Nat) (v3 : Int32) (v4 : Int32), (J (p 4) 2).toInt - v4.toInt ≤ c → nt_rn X d 225 (55, [(0, .ref (p 0)), (1, .int v1), (2, .int v2), (3, .int v3), (4, .int v4)], [], me_w M J) o → ∃ (w4 : Int32), nt_rn X d 225 (100, [(0, .ref (p 0)), (1, .int v1), (2, .int v2), (3, .int (x225_55 p v1 v2 J c v3 v4)), (4, .int w4)], [], me_w M J) o := by
  intro c
  induction c with
  | zero =>
    intro v3 v4 hc k
    have k := ly_revb 2 (c' := (58, [(0, .ref (p 0)), (1, .int v1), (2, .int v2), (3, .int v3), (4, .int v4)], [.ref (p 0), .int v4], me_w M J)) rfl k
    have k := lz_get (a := (p 0)) (g := 1127) (M := me_w M J) (v := .ref (p 4)) rfl (nt_gfR rfl (hp.1 (0, 27, 4) (by decide))) k
    have k := ly_revb 1 (c' := (62, [(0, .ref (p 0)), (1, .int v1), (2, .int v2), (3, .int v3), (4, .int v4)], [.int (Int32.ofInt 2), .ref (p 4), .int v4], me_w M J)) rfl k
    have k := mx_iald (v := J (p 4) 2) rfl (hp.2.2.1 4 (by omega)) ((congrArg (J (p 4)) (show (Int32.ofInt 2).toNatClampNeg = 2 from rfl)).trans (rfl)) k
    have k := ly_revb 1 (c' := (if (J (p 4) 2) ≤ v4 then 100 else 66, [(0, .ref (p 0)), (1, .int v1), (2, .int v2), (3, .int v3), (4, .int v4)], [], me_w M J)) rfl k
    have h63 : (J (p 4) 2) ≤ v4 := lx_end hc
    rw [if_pos h63] at k
    have k := nt_rn_w (a := [(0, .ref (p 0)), (1, .int v1), (2, .int v2), (3, .int v3), (4, .int v4)]) (b := [(0, .ref (p 0)), (1, .int v1), (2, .int v2), (3, .int v3), (4, .int v4)]) ⟨rfl, rfl, rfl, rfl, rfl, trivial⟩ rfl k
    rw [x225_55]
    exact ⟨_, k⟩
  | succ c ih =>
    intro v3 v4 hc k
    have k := ly_revb 2 (c' := (58, [(0, .ref (p 0)), (1, .int v1), (2, .int v2), (3, .int v3), (4, .int v4)], [.ref (p 0), .int v4], me_w M J)) rfl k
    have k := lz_get (a := (p 0)) (g := 1127) (M := me_w M J) (v := .ref (p 4)) rfl (nt_gfR rfl (hp.1 (0, 27, 4) (by decide))) k
    have k := ly_revb 1 (c' := (62, [(0, .ref (p 0)), (1, .int v1), (2, .int v2), (3, .int v3), (4, .int v4)], [.int (Int32.ofInt 2), .ref (p 4), .int v4], me_w M J)) rfl k
    have k := mx_iald (v := J (p 4) 2) rfl (hp.2.2.1 4 (by omega)) ((congrArg (J (p 4)) (show (Int32.ofInt 2).toNatClampNeg = 2 from rfl)).trans (rfl)) k
    have k := ly_revb 1 (c' := (if (J (p 4) 2) ≤ v4 then 100 else 66, [(0, .ref (p 0)), (1, .int v1), (2, .int v2), (3, .int v3), (4, .int v4)], [], me_w M J)) rfl k
    by_cases h63 : (J (p 4) 2) ≤ v4
    · rw [if_pos h63] at k
      have k := nt_rn_w (a := [(0, .ref (p 0)), (1, .int v1), (2, .int v2), (3, .int v3), (4, .int v4)]) (b := [(0, .ref (p 0)), (1, .int v1), (2, .int v2), (3, .int v3), (4, .int v4)]) ⟨rfl, rfl, rfl, rfl, rfl, trivial⟩ rfl k
      rw [x225_55, if_pos h63]
      exact ⟨_, k⟩
    · rw [if_neg h63] at k
      have k := ly_revb 3 (c' := (70, [(0, .ref (p 0)), (1, .int v1), (2, .int v2), (3, .int v3), (4, .int v4)], [.int v4, .ref (p 0), .int v3], me_w M J)) rfl k
      obtain ⟨d1, o1, ed, kc, k⟩ := lz_c (g := 172) (q := 1) (vs := [.ref (p 0), .int v4]) (rest := [.int v3]) rfl rfl (by decide) (Or.inr (Or.inl ⟨_, rfl, rfl⟩)) rfl k
      have e1 := xt172 hp kc
      subst e1
      have k : nt_rn X _ 225 (73, [(0, .ref (p 0)), (1, .int v1), (2, .int v2), (3, .int v3), (4, .int v4)], [.int (x172 p v4 J), .int v3], me_w M J) _ := k
      have k := ly_revb 1 (c' := (if (x172 p v4 J) = 0 then 91 else 76, [(0, .ref (p 0)), (1, .int v1), (2, .int v2), (3, .int v3), (4, .int v4)], [.int v3], me_w M J)) rfl k
      by_cases h73 : (x172 p v4 J) = 0
      · rw [if_pos h73] at k
        have k := ly_revb 5 (c' := (55, [(4, .int (v4 + (Int32.ofInt 1))), (3, .int (v3 + (Int32.ofInt 0))), (0, .ref (p 0)), (1, .int v1), (2, .int v2)], [], me_w M J)) rfl k
        have k := nt_rn_w (a := [(4, .int (v4 + (Int32.ofInt 1))), (3, .int (v3 + (Int32.ofInt 0))), (0, .ref (p 0)), (1, .int v1), (2, .int v2)]) (b := [(0, .ref (p 0)), (1, .int v1), (2, .int v2), (3, .int (v3 + (Int32.ofInt 0))), (4, .int (v4 + (Int32.ofInt 1)))]) ⟨rfl, rfl, rfl, rfl, rfl, trivial⟩ rfl k
        have k := ih (v3 + (Int32.ofInt 0)) (v4 + (Int32.ofInt 1)) (lx_dec h63 hc) k
        rw [x225_55, if_neg h63, if_pos h73]
        exact k
      · rw [if_neg h73] at k
        have k := ly_revb 3 (c' := (80, [(0, .ref (p 0)), (1, .int v1), (2, .int v2), (3, .int v3), (4, .int v4)], [.int (Int32.ofInt 0), .int v4, .ref (p 0), .int v3], me_w M J)) rfl k
        obtain ⟨d1, o1, ed, kc, k⟩ := lz_c (g := 173) (q := 1) (vs := [.ref (p 0), .int v4, .int (Int32.ofInt 0)]) (rest := [.int v3]) rfl rfl (by decide) (Or.inr (Or.inl ⟨_, rfl, rfl⟩)) rfl k
        have e1 := xt173 hp kc
        subst e1
        have k : nt_rn X _ 225 (83, [(0, .ref (p 0)), (1, .int v1), (2, .int v2), (3, .int v3), (4, .int v4)], [.int (x173 p v4 (Int32.ofInt 0) J), .int v3], me_w M J) _ := k
        have k := ly_revb 2 (c' := (if (x173 p v4 (Int32.ofInt 0) J) = v2 then 87 else 91, [(0, .ref (p 0)), (1, .int v1), (2, .int v2), (3, .int v3), (4, .int v4)], [.int v3], me_w M J)) rfl k
        by_cases h84 : (x173 p v4 (Int32.ofInt 0) J) = v2
        · rw [if_pos h84] at k
          have k := ly_revb 6 (c' := (55, [(4, .int (v4 + (Int32.ofInt 1))), (3, .int (v3 + (Int32.ofInt 1))), (0, .ref (p 0)), (1, .int v1), (2, .int v2)], [], me_w M J)) rfl k
          have k := nt_rn_w (a := [(4, .int (v4 + (Int32.ofInt 1))), (3, .int (v3 + (Int32.ofInt 1))), (0, .ref (p 0)), (1, .int v1), (2, .int v2)]) (b := [(0, .ref (p 0)), (1, .int v1), (2, .int v2), (3, .int (v3 + (Int32.ofInt 1))), (4, .int (v4 + (Int32.ofInt 1)))]) ⟨rfl, rfl, rfl, rfl, rfl, trivial⟩ rfl k
          have k := ih (v3 + (Int32.ofInt 1)) (v4 + (Int32.ofInt 1)) (lx_dec h63 hc) k
          rw [x225_55, if_neg h63, if_neg h73, if_pos h84]
          exact k
        · rw [if_neg h84] at k
          have k := ly_revb 5 (c' := (55, [(4, .int (v4 + (Int32.ofInt 1))), (3, .int (v3 + (Int32.ofInt 0))), (0, .ref (p 0)), (1, .int v1), (2, .int v2)], [], me_w M J)) rfl k
          have k := nt_rn_w (a := [(4, .int (v4 + (Int32.ofInt 1))), (3, .int (v3 + (Int32.ofInt 0))), (0, .ref (p 0)), (1, .int v1), (2, .int v2)]) (b := [(0, .ref (p 0)), (1, .int v1), (2, .int v2), (3, .int (v3 + (Int32.ofInt 0))), (4, .int (v4 + (Int32.ofInt 1)))]) ⟨rfl, rfl, rfl, rfl, rfl, trivial⟩ rfl k
          have k := ih (v3 + (Int32.ofInt 0)) (v4 + (Int32.ofInt 1)) (lx_dec h63 hc) k
          rw [x225_55, if_neg h63, if_neg h73, if_neg h84]
          exact k
theorem x225_55_rule {p : Nat → Nat} {v1 : Int32} {v2 : Int32} {J : Nat → Nat → Int32} {I : Nat → Int32 → Int32 → Prop} {Q : Int32 → Prop} (h0 : ∀ (v3 : Int32) (v4 : Int32), I 0 v3 v4 → Q v3) (h1 : ∀ (c : Nat) (v3 : Int32) (v4 : Int32), I (c + 1) v3 v4 →
    if (J (p 4) 2) ≤ v4 then (Q v3)
    else if (x172 p v4 J) = 0 then (I c (v3 + (Int32.ofInt 0)) (v4 + (Int32.ofInt 1)))
      else if (x173 p v4 (Int32.ofInt 0) J) = v2 then (I c (v3 + (Int32.ofInt 1)) (v4 + (Int32.ofInt 1)))
        else (I c (v3 + (Int32.ofInt 0)) (v4 + (Int32.ofInt 1)))) : ∀ (c : Nat) (v3 : Int32) (v4 : Int32), I c v3 v4 → Q (x225_55 p v1 v2 J c v3 v4) := by
  intro c
  induction c with
  | zero =>
    intro v3 v4 hi
    rw [x225_55]
    exact h0 v3 v4 hi
  | succ c ih =>
    intro v3 v4 hi
    have hi := h1 c v3 v4 hi
    rw [x225_55]
    by_cases h : (J (p 4) 2) ≤ v4
    · rw [if_pos h] at hi ⊢
      exact hi
    · rw [if_neg h] at hi ⊢
      by_cases h : (x172 p v4 J) = 0
      · rw [if_pos h] at hi ⊢
        exact ih _ _ hi
      · rw [if_neg h] at hi ⊢
        by_cases h : (x173 p v4 (Int32.ofInt 0) J) = v2
        · rw [if_pos h] at hi ⊢
          exact ih _ _ hi
        · rw [if_neg h] at hi ⊢
          exact ih _ _ hi
def x225_103 (p : Nat → Nat) (v1 : Int32) (v2 : Int32) (J : Nat → Nat → Int32) : Nat → Int32 → Int32 → Int32
  | 0, v3, v4 => v3
  | c + 1, v3, v4 => if (J (p 4) 1) ≤ v4 then v3
    else if (x209 v1 v4) = 0 then (x225_103 p v1 v2 J c (v3 - (Int32.ofInt 0)) (v4 + (Int32.ofInt 1)))
      else (x225_103 p v1 v2 J c (v3 - (x169 p v4 v2 J)) (v4 + (Int32.ofInt 1)))
theorem xt225_103 {X : nt_X} {d : Nat} {M : nt_M} {o : Option Value × nt_M} {p : Nat → Nat} {v1 : Int32} {v2 : Int32} {J : Nat → Nat → Int32} (hp : xs_P M p) : ∀ (c : Nat) (v3 : Int32) (v4 : Int32), (J (p 4) 1).toInt - v4.toInt ≤ c → nt_rn X d 225 (103, [(0, .ref (p 0)), (1, .int v1), (2, .int v2), (3, .int v3), (4, .int v4)], [], me_w M J) o → ∃ (w4 : Int32), nt_rn X d 225 (143, [(0, .ref (p 0)), (1, .int v1), (2, .int v2), (3, .int (x225_103 p v1 v2 J c v3 v4)), (4, .int w4)], [], me_w M J) o := by
  intro c
  induction c with
  | zero =>
    intro v3 v4 hc k
    have k := ly_revb 2 (c' := (106, [(0, .ref (p 0)), (1, .int v1), (2, .int v2), (3, .int v3), (4, .int v4)], [.ref (p 0), .int v4], me_w M J)) rfl k
    have k := lz_get (a := (p 0)) (g := 1127) (M := me_w M J) (v := .ref (p 4)) rfl (nt_gfR rfl (hp.1 (0, 27, 4) (by decide))) k
    have k := ly_revb 1 (c' := (110, [(0, .ref (p 0)), (1, .int v1), (2, .int v2), (3, .int v3), (4, .int v4)], [.int (Int32.ofInt 1), .ref (p 4), .int v4], me_w M J)) rfl k
    have k := mx_iald (v := J (p 4) 1) rfl (hp.2.2.1 4 (by omega)) ((congrArg (J (p 4)) (show (Int32.ofInt 1).toNatClampNeg = 1 from rfl)).trans (rfl)) k
    have k := ly_revb 1 (c' := (if (J (p 4) 1) ≤ v4 then 143 else 114, [(0, .ref (p 0)), (1, .int v1), (2, .int v2), (3, .int v3), (4, .int v4)], [], me_w M J)) rfl k
    have h111 : (J (p 4) 1) ≤ v4 := lx_end hc
    rw [if_pos h111] at k
    have k := nt_rn_w (a := [(0, .ref (p 0)), (1, .int v1), (2, .int v2), (3, .int v3), (4, .int v4)]) (b := [(0, .ref (p 0)), (1, .int v1), (2, .int v2), (3, .int v3), (4, .int v4)]) ⟨rfl, rfl, rfl, rfl, rfl, trivial⟩ rfl k
    rw [x225_103]
    exact ⟨_, k⟩
  | succ c ih =>
    intro v3 v4 hc k
    have k := ly_revb 2 (c' := (106, [(0, .ref (p 0)), (1, .int v1), (2, .int v2), (3, .int v3), (4, .int v4)], [.ref (p 0), .int v4], me_w M J)) rfl k
    have k := lz_get (a := (p 0)) (g := 1127) (M := me_w M J) (v := .ref (p 4)) rfl (nt_gfR rfl (hp.1 (0, 27, 4) (by decide))) k
    have k := ly_revb 1 (c' := (110, [(0, .ref (p 0)), (1, .int v1), (2, .int v2), (3, .int v3), (4, .int v4)], [.int (Int32.ofInt 1), .ref (p 4), .int v4], me_w M J)) rfl k
    have k := mx_iald (v := J (p 4) 1) rfl (hp.2.2.1 4 (by omega)) ((congrArg (J (p 4)) (show (Int32.ofInt 1).toNatClampNeg = 1 from rfl)).trans (rfl)) k
    have k := ly_revb 1 (c' := (if (J (p 4) 1) ≤ v4 then 143 else 114, [(0, .ref (p 0)), (1, .int v1), (2, .int v2), (3, .int v3), (4, .int v4)], [], me_w M J)) rfl k
    by_cases h111 : (J (p 4) 1) ≤ v4
    · rw [if_pos h111] at k
      have k := nt_rn_w (a := [(0, .ref (p 0)), (1, .int v1), (2, .int v2), (3, .int v3), (4, .int v4)]) (b := [(0, .ref (p 0)), (1, .int v1), (2, .int v2), (3, .int v3), (4, .int v4)]) ⟨rfl, rfl, rfl, rfl, rfl, trivial⟩ rfl k
      rw [x225_103, if_pos h111]
      exact ⟨_, k⟩
    · rw [if_neg h111] at k
      have k := ly_revb 3 (c' := (118, [(0, .ref (p 0)), (1, .int v1), (2, .int v2), (3, .int v3), (4, .int v4)], [.int v4, .int v1, .int v3], me_w M J)) rfl k
      obtain ⟨d1, o1, ed, kc, k⟩ := lz_c (g := 209) (q := 0) (vs := [.int v1, .int v4]) (rest := [.int v3]) rfl rfl (by decide) (Or.inl ⟨_, rfl, rfl⟩) rfl k
      have e1 := xt209  kc
      subst e1
      have k : nt_rn X _ 225 (121, [(0, .ref (p 0)), (1, .int v1), (2, .int v2), (3, .int v3), (4, .int v4)], [.int (x209 v1 v4), .int v3], me_w M J) _ := k
      have k := ly_revb 1 (c' := (if (x209 v1 v4) = 0 then 134 else 124, [(0, .ref (p 0)), (1, .int v1), (2, .int v2), (3, .int v3), (4, .int v4)], [.int v3], me_w M J)) rfl k
      by_cases h121 : (x209 v1 v4) = 0
      · rw [if_pos h121] at k
        have k := ly_revb 5 (c' := (103, [(4, .int (v4 + (Int32.ofInt 1))), (3, .int (v3 - (Int32.ofInt 0))), (0, .ref (p 0)), (1, .int v1), (2, .int v2)], [], me_w M J)) rfl k
        have k := nt_rn_w (a := [(4, .int (v4 + (Int32.ofInt 1))), (3, .int (v3 - (Int32.ofInt 0))), (0, .ref (p 0)), (1, .int v1), (2, .int v2)]) (b := [(0, .ref (p 0)), (1, .int v1), (2, .int v2), (3, .int (v3 - (Int32.ofInt 0))), (4, .int (v4 + (Int32.ofInt 1)))]) ⟨rfl, rfl, rfl, rfl, rfl, trivial⟩ rfl k
        have k := ih (v3 - (Int32.ofInt 0)) (v4 + (Int32.ofInt 1)) (lx_dec h111 hc) k
        rw [x225_103, if_neg h111, if_pos h121]
        exact k
      · rw [if_neg h121] at k
        have k := ly_revb 3 (c' := (128, [(0, .ref (p 0)), (1, .int v1), (2, .int v2), (3, .int v3), (4, .int v4)], [.int v2, .int v4, .ref (p 0), .int v3], me_w M J)) rfl k
        obtain ⟨d1, o1, ed, kc, k⟩ := lz_c (g := 169) (q := 1) (vs := [.ref (p 0), .int v4, .int v2]) (rest := [.int v3]) rfl rfl (by decide) (Or.inr (Or.inl ⟨_, rfl, rfl⟩)) rfl k
        have e1 := xt169 hp kc
        subst e1
        have k : nt_rn X _ 225 (131, [(0, .ref (p 0)), (1, .int v1), (2, .int v2), (3, .int v3), (4, .int v4)], [.int (x169 p v4 v2 J), .int v3], me_w M J) _ := k
        have k := ly_revb 5 (c' := (103, [(4, .int (v4 + (Int32.ofInt 1))), (3, .int (v3 - (x169 p v4 v2 J))), (0, .ref (p 0)), (1, .int v1), (2, .int v2)], [], me_w M J)) rfl k
        have k := nt_rn_w (a := [(4, .int (v4 + (Int32.ofInt 1))), (3, .int (v3 - (x169 p v4 v2 J))), (0, .ref (p 0)), (1, .int v1), (2, .int v2)]) (b := [(0, .ref (p 0)), (1, .int v1), (2, .int v2), (3, .int (v3 - (x169 p v4 v2 J))), (4, .int (v4 + (Int32.ofInt 1)))]) ⟨rfl, rfl, rfl, rfl, rfl, trivial⟩ rfl k
        have k := ih (v3 - (x169 p v4 v2 J)) (v4 + (Int32.ofInt 1)) (lx_dec h111 hc) k
        rw [x225_103, if_neg h111, if_neg h121]
        exact k
theorem x225_103_rule {p : Nat → Nat} {v1 : Int32} {v2 : Int32} {J : Nat → Nat → Int32} {I : Nat → Int32 → Int32 → Prop} {Q : Int32 → Prop} (h0 : ∀ (v3 : Int32) (v4 : Int32), I 0 v3 v4 → Q v3) (h1 : ∀ (c : Nat) (v3 : Int32) (v4 : Int32), I (c + 1) v3 v4 →
    if (J (p 4) 1) ≤ v4 then (Q v3)
    else if (x209 v1 v4) = 0 then (I c (v3 - (Int32.ofInt 0)) (v4 + (Int32.ofInt 1)))
      else (I c (v3 - (x169 p v4 v2 J)) (v4 + (Int32.ofInt 1)))) : ∀ (c : Nat) (v3 : Int32) (v4 : Int32), I c v3 v4 → Q (x225_103 p v1 v2 J c v3 v4) := by
  intro c
  induction c with
  | zero =>
    intro v3 v4 hi
    rw [x225_103]
    exact h0 v3 v4 hi
  | succ c ih =>
    intro v3 v4 hi
    have hi := h1 c v3 v4 hi
    rw [x225_103]
    by_cases h : (J (p 4) 1) ≤ v4
    · rw [if_pos h] at hi ⊢
      exact hi
    · rw [if_neg h] at hi ⊢
      by_cases h : (x209 v1 v4) = 0
      · rw [if_pos h] at hi ⊢
        exact ih _ _ hi
      · rw [if_neg h] at hi ⊢
        exact ih _ _ hi
def x225_40 (p : Nat → Nat) (v1 : Int32) (J : Nat → Nat → Int32) : Nat → Int32 → Int32
  | 0, v2 => (Int32.ofInt 1)
  | c + 1, v2 => if (J (p 4) 0) ≤ v2 then (Int32.ofInt 1)
    else if 0 ≤ (x225_103 p v1 v2 J ((J (p 4) 1).toNatClampNeg) (x225_55 p v1 v2 J ((J (p 4) 2).toNatClampNeg) (Int32.ofInt 0) (Int32.ofInt 0)) (Int32.ofInt 0)) then (x225_40 p v1 J c (v2 + (Int32.ofInt 1)))
      else (Int32.ofInt 0)
theorem xt225_40 {X : nt_X} {d : Nat} {M : nt_M} {o : Option Value × nt_M} {p : Nat → Nat} {v1 : Int32} {J : Nat → Nat → Int32} (hp : xs_P M p) : ∀ (c : Nat) (v2 : Int32) (v3 : Int32) (v4 : Int32), (J (p 4) 0).toInt - v2.toInt ≤ c → nt_rn X d 225 (40, [(0, .ref (p 0)), (1, .int v1), (2, .int v2), (3, .int v3), (4, .int v4)], [], me_w M J) o → o = (some (.int (x225_40 p v1 J c v2)), me_w M J) := by
  intro c
  induction c with
  | zero =>
    intro v2 v3 v4 hc k
    have k := ly_revb 2 (c' := (42, [(0, .ref (p 0)), (1, .int v1), (2, .int v2), (3, .int v3), (4, .int v4)], [.ref (p 0), .int v2], me_w M J)) rfl k
    have k := lz_get (a := (p 0)) (g := 1127) (M := me_w M J) (v := .ref (p 4)) rfl (nt_gfR rfl (hp.1 (0, 27, 4) (by decide))) k
    have k := ly_revb 1 (c' := (46, [(0, .ref (p 0)), (1, .int v1), (2, .int v2), (3, .int v3), (4, .int v4)], [.int (Int32.ofInt 0), .ref (p 4), .int v2], me_w M J)) rfl k
    have k := mx_iald (v := J (p 4) 0) rfl (hp.2.2.1 4 (by omega)) ((congrArg (J (p 4)) (show (Int32.ofInt 0).toNatClampNeg = 0 from rfl)).trans (rfl)) k
    have k := ly_revb 1 (c' := (if (J (p 4) 0) ≤ v2 then 155 else 50, [(0, .ref (p 0)), (1, .int v1), (2, .int v2), (3, .int v3), (4, .int v4)], [], me_w M J)) rfl k
    have h47 : (J (p 4) 0) ≤ v2 := lx_end hc
    rw [if_pos h47] at k
    have k := ly_revb 1 (c' := (156, [(0, .ref (p 0)), (1, .int v1), (2, .int v2), (3, .int v3), (4, .int v4)], [.int (Int32.ofInt 1)], me_w M J)) rfl k
    have k := lz_ri rfl (by decide) k
    rw [k, x225_40]
  | succ c ih =>
    intro v2 v3 v4 hc k
    have k := ly_revb 2 (c' := (42, [(0, .ref (p 0)), (1, .int v1), (2, .int v2), (3, .int v3), (4, .int v4)], [.ref (p 0), .int v2], me_w M J)) rfl k
    have k := lz_get (a := (p 0)) (g := 1127) (M := me_w M J) (v := .ref (p 4)) rfl (nt_gfR rfl (hp.1 (0, 27, 4) (by decide))) k
    have k := ly_revb 1 (c' := (46, [(0, .ref (p 0)), (1, .int v1), (2, .int v2), (3, .int v3), (4, .int v4)], [.int (Int32.ofInt 0), .ref (p 4), .int v2], me_w M J)) rfl k
    have k := mx_iald (v := J (p 4) 0) rfl (hp.2.2.1 4 (by omega)) ((congrArg (J (p 4)) (show (Int32.ofInt 0).toNatClampNeg = 0 from rfl)).trans (rfl)) k
    have k := ly_revb 1 (c' := (if (J (p 4) 0) ≤ v2 then 155 else 50, [(0, .ref (p 0)), (1, .int v1), (2, .int v2), (3, .int v3), (4, .int v4)], [], me_w M J)) rfl k
    by_cases h47 : (J (p 4) 0) ≤ v2
    · rw [if_pos h47] at k
      have k := ly_revb 1 (c' := (156, [(0, .ref (p 0)), (1, .int v1), (2, .int v2), (3, .int v3), (4, .int v4)], [.int (Int32.ofInt 1)], me_w M J)) rfl k
      have k := lz_ri rfl (by decide) k
      rw [k, x225_40, if_pos h47]
    · rw [if_neg h47] at k
      have k := ly_revb 4 (c' := (55, [(4, .int (Int32.ofInt 0)), (3, .int (Int32.ofInt 0)), (0, .ref (p 0)), (1, .int v1), (2, .int v2)], [], me_w M J)) rfl k
      have k := nt_rn_w (a := [(4, .int (Int32.ofInt 0)), (3, .int (Int32.ofInt 0)), (0, .ref (p 0)), (1, .int v1), (2, .int v2)]) (b := [(0, .ref (p 0)), (1, .int v1), (2, .int v2), (3, .int (Int32.ofInt 0)), (4, .int (Int32.ofInt 0))]) ⟨rfl, rfl, rfl, rfl, rfl, trivial⟩ rfl k
      have k := xt225_55 hp  ((J (p 4) 2).toNatClampNeg) (Int32.ofInt 0) (Int32.ofInt 0) (lx_beg (by decide)) k
      obtain ⟨w4, k⟩ := k
      have k : nt_rn X _ 225 (100, [(0, .ref (p 0)), (1, .int v1), (2, .int v2), (3, .int (x225_55 p v1 v2 J ((J (p 4) 2).toNatClampNeg) (Int32.ofInt 0) (Int32.ofInt 0))), (4, .int w4)], [], me_w M J) _ := k
      have k := ly_revb 2 (c' := (103, [(4, .int (Int32.ofInt 0)), (0, .ref (p 0)), (1, .int v1), (2, .int v2), (3, .int (x225_55 p v1 v2 J ((J (p 4) 2).toNatClampNeg) (Int32.ofInt 0) (Int32.ofInt 0)))], [], me_w M J)) rfl k
      have k := nt_rn_w (a := [(4, .int (Int32.ofInt 0)), (0, .ref (p 0)), (1, .int v1), (2, .int v2), (3, .int (x225_55 p v1 v2 J ((J (p 4) 2).toNatClampNeg) (Int32.ofInt 0) (Int32.ofInt 0)))]) (b := [(0, .ref (p 0)), (1, .int v1), (2, .int v2), (3, .int (x225_55 p v1 v2 J ((J (p 4) 2).toNatClampNeg) (Int32.ofInt 0) (Int32.ofInt 0))), (4, .int (Int32.ofInt 0))]) ⟨rfl, rfl, rfl, rfl, rfl, trivial⟩ rfl k
      have k := xt225_103 hp  ((J (p 4) 1).toNatClampNeg) (x225_55 p v1 v2 J ((J (p 4) 2).toNatClampNeg) (Int32.ofInt 0) (Int32.ofInt 0)) (Int32.ofInt 0) (lx_beg (by decide)) k
      obtain ⟨w4, k⟩ := k
      have k : nt_rn X _ 225 (143, [(0, .ref (p 0)), (1, .int v1), (2, .int v2), (3, .int (x225_103 p v1 v2 J ((J (p 4) 1).toNatClampNeg) (x225_55 p v1 v2 J ((J (p 4) 2).toNatClampNeg) (Int32.ofInt 0) (Int32.ofInt 0)) (Int32.ofInt 0))), (4, .int w4)], [], me_w M J) _ := k
      have k := ly_revb 2 (c' := (if 0 ≤ (x225_103 p v1 v2 J ((J (p 4) 1).toNatClampNeg) (x225_55 p v1 v2 J ((J (p 4) 2).toNatClampNeg) (Int32.ofInt 0) (Int32.ofInt 0)) (Int32.ofInt 0)) then 149 else 147, [(0, .ref (p 0)), (1, .int v1), (2, .int v2), (3, .int (x225_103 p v1 v2 J ((J (p 4) 1).toNatClampNeg) (x225_55 p v1 v2 J ((J (p 4) 2).toNatClampNeg) (Int32.ofInt 0) (Int32.ofInt 0)) (Int32.ofInt 0))), (4, .int w4)], [], me_w M J)) rfl k
      by_cases h144 : 0 ≤ (x225_103 p v1 v2 J ((J (p 4) 1).toNatClampNeg) (x225_55 p v1 v2 J ((J (p 4) 2).toNatClampNeg) (Int32.ofInt 0) (Int32.ofInt 0)) (Int32.ofInt 0))
      · rw [if_pos h144] at k
        have k := ly_revb 2 (c' := (40, [(2, .int (v2 + (Int32.ofInt 1))), (0, .ref (p 0)), (1, .int v1), (3, .int (x225_103 p v1 v2 J ((J (p 4) 1).toNatClampNeg) (x225_55 p v1 v2 J ((J (p 4) 2).toNatClampNeg) (Int32.ofInt 0) (Int32.ofInt 0)) (Int32.ofInt 0))), (4, .int w4)], [], me_w M J)) rfl k
        have k := nt_rn_w (a := [(2, .int (v2 + (Int32.ofInt 1))), (0, .ref (p 0)), (1, .int v1), (3, .int (x225_103 p v1 v2 J ((J (p 4) 1).toNatClampNeg) (x225_55 p v1 v2 J ((J (p 4) 2).toNatClampNeg) (Int32.ofInt 0) (Int32.ofInt 0)) (Int32.ofInt 0))), (4, .int w4)]) (b := [(0, .ref (p 0)), (1, .int v1), (2, .int (v2 + (Int32.ofInt 1))), (3, .int (x225_103 p v1 v2 J ((J (p 4) 1).toNatClampNeg) (x225_55 p v1 v2 J ((J (p 4) 2).toNatClampNeg) (Int32.ofInt 0) (Int32.ofInt 0)) (Int32.ofInt 0))), (4, .int w4)]) ⟨rfl, rfl, rfl, rfl, rfl, trivial⟩ rfl k
        have k := ih (v2 + (Int32.ofInt 1)) (x225_103 p v1 v2 J ((J (p 4) 1).toNatClampNeg) (x225_55 p v1 v2 J ((J (p 4) 2).toNatClampNeg) (Int32.ofInt 0) (Int32.ofInt 0)) (Int32.ofInt 0)) w4 (lx_dec h47 hc) k
        rw [k, x225_40, if_neg h47, if_pos h144]
      · rw [if_neg h144] at k
        have k := ly_revb 1 (c' := (148, [(0, .ref (p 0)), (1, .int v1), (2, .int v2), (3, .int (x225_103 p v1 v2 J ((J (p 4) 1).toNatClampNeg) (x225_55 p v1 v2 J ((J (p 4) 2).toNatClampNeg) (Int32.ofInt 0) (Int32.ofInt 0)) (Int32.ofInt 0))), (4, .int w4)], [.int (Int32.ofInt 0)], me_w M J)) rfl k
        have k := lz_ri rfl (by decide) k
        rw [k, x225_40, if_neg h47, if_neg h144]
theorem x225_40_rule {p : Nat → Nat} {v1 : Int32} {J : Nat → Nat → Int32} {I : Nat → Int32 → Prop} {Q : Int32 → Prop} (h0 : ∀ (v2 : Int32), I 0 v2 → Q (Int32.ofInt 1)) (h1 : ∀ (c : Nat) (v2 : Int32), I (c + 1) v2 →
    if (J (p 4) 0) ≤ v2 then (Q (Int32.ofInt 1))
    else if 0 ≤ (x225_103 p v1 v2 J ((J (p 4) 1).toNatClampNeg) (x225_55 p v1 v2 J ((J (p 4) 2).toNatClampNeg) (Int32.ofInt 0) (Int32.ofInt 0)) (Int32.ofInt 0)) then (I c (v2 + (Int32.ofInt 1)))
      else (Q (Int32.ofInt 0))) : ∀ (c : Nat) (v2 : Int32), I c v2 → Q (x225_40 p v1 J c v2) := by
  intro c
  induction c with
  | zero =>
    intro v2 hi
    rw [x225_40]
    exact h0 v2 hi
  | succ c ih =>
    intro v2 hi
    have hi := h1 c v2 hi
    rw [x225_40]
    by_cases h : (J (p 4) 0) ≤ v2
    · rw [if_pos h] at hi ⊢
      exact hi
    · rw [if_neg h] at hi ⊢
      by_cases h : 0 ≤ (x225_103 p v1 v2 J ((J (p 4) 1).toNatClampNeg) (x225_55 p v1 v2 J ((J (p 4) 2).toNatClampNeg) (Int32.ofInt 0) (Int32.ofInt 0)) (Int32.ofInt 0))
      · rw [if_pos h] at hi ⊢
        exact ih _ hi
      · rw [if_neg h] at hi ⊢
        exact hi
def x225_2 (p : Nat → Nat) (v1 : Int32) (J : Nat → Nat → Int32) : Nat → Int32 → Int32
  | 0, v2 => (x225_40 p v1 J ((J (p 4) 0).toNatClampNeg) (Int32.ofInt 0))
  | c + 1, v2 => if (J (p 4) 1) ≤ v2 then (x225_40 p v1 J ((J (p 4) 0).toNatClampNeg) (Int32.ofInt 0))
    else if (x209 v1 v2) = 0 then (x225_2 p v1 J c (v2 + (Int32.ofInt 1)))
      else if (x169 p v2 (Int32.ofInt 4) J) = (Int32.ofInt 2) then (Int32.ofInt 0)
        else (x225_2 p v1 J c (v2 + (Int32.ofInt 1)))
theorem xt225_2 {X : nt_X} {d : Nat} {M : nt_M} {o : Option Value × nt_M} {p : Nat → Nat} {v1 : Int32} {J : Nat → Nat → Int32} (hp : xs_P M p) : ∀ (c : Nat) (v2 : Int32), (J (p 4) 1).toInt - v2.toInt ≤ c → nt_rn X d 225 (2, [(0, .ref (p 0)), (1, .int v1), (2, .int v2)], [], me_w M J) o → o = (some (.int (x225_2 p v1 J c v2)), me_w M J) := by
  intro c
  induction c with
  | zero =>
    intro v2 hc k
    have k := ly_revb 2 (c' := (4, [(0, .ref (p 0)), (1, .int v1), (2, .int v2)], [.ref (p 0), .int v2], me_w M J)) rfl k
    have k := lz_get (a := (p 0)) (g := 1127) (M := me_w M J) (v := .ref (p 4)) rfl (nt_gfR rfl (hp.1 (0, 27, 4) (by decide))) k
    have k := ly_revb 1 (c' := (8, [(0, .ref (p 0)), (1, .int v1), (2, .int v2)], [.int (Int32.ofInt 1), .ref (p 4), .int v2], me_w M J)) rfl k
    have k := mx_iald (v := J (p 4) 1) rfl (hp.2.2.1 4 (by omega)) ((congrArg (J (p 4)) (show (Int32.ofInt 1).toNatClampNeg = 1 from rfl)).trans (rfl)) k
    have k := ly_revb 1 (c' := (if (J (p 4) 1) ≤ v2 then 38 else 12, [(0, .ref (p 0)), (1, .int v1), (2, .int v2)], [], me_w M J)) rfl k
    have h9 : (J (p 4) 1) ≤ v2 := lx_end hc
    rw [if_pos h9] at k
    have k := ly_revb 2 (c' := (40, [(2, .int (Int32.ofInt 0)), (0, .ref (p 0)), (1, .int v1)], [], me_w M J)) rfl k
    have k := nt_rn_w (a := [(2, .int (Int32.ofInt 0)), (0, .ref (p 0)), (1, .int v1)]) (b := [(0, .ref (p 0)), (1, .int v1), (2, .int (Int32.ofInt 0)), (3, .int (Int32.ofInt 0)), (4, .int (Int32.ofInt 0))]) ⟨rfl, rfl, rfl, trivial⟩ rfl k
    have k := xt225_40 hp  ((J (p 4) 0).toNatClampNeg) (Int32.ofInt 0) (Int32.ofInt 0) (Int32.ofInt 0) (lx_beg (by decide)) k
    rw [k, x225_2]
  | succ c ih =>
    intro v2 hc k
    have k := ly_revb 2 (c' := (4, [(0, .ref (p 0)), (1, .int v1), (2, .int v2)], [.ref (p 0), .int v2], me_w M J)) rfl k
    have k := lz_get (a := (p 0)) (g := 1127) (M := me_w M J) (v := .ref (p 4)) rfl (nt_gfR rfl (hp.1 (0, 27, 4) (by decide))) k
    have k := ly_revb 1 (c' := (8, [(0, .ref (p 0)), (1, .int v1), (2, .int v2)], [.int (Int32.ofInt 1), .ref (p 4), .int v2], me_w M J)) rfl k
    have k := mx_iald (v := J (p 4) 1) rfl (hp.2.2.1 4 (by omega)) ((congrArg (J (p 4)) (show (Int32.ofInt 1).toNatClampNeg = 1 from rfl)).trans (rfl)) k
    have k := ly_revb 1 (c' := (if (J (p 4) 1) ≤ v2 then 38 else 12, [(0, .ref (p 0)), (1, .int v1), (2, .int v2)], [], me_w M J)) rfl k
    by_cases h9 : (J (p 4) 1) ≤ v2
    · rw [if_pos h9] at k
      have k := ly_revb 2 (c' := (40, [(2, .int (Int32.ofInt 0)), (0, .ref (p 0)), (1, .int v1)], [], me_w M J)) rfl k
      have k := nt_rn_w (a := [(2, .int (Int32.ofInt 0)), (0, .ref (p 0)), (1, .int v1)]) (b := [(0, .ref (p 0)), (1, .int v1), (2, .int (Int32.ofInt 0)), (3, .int (Int32.ofInt 0)), (4, .int (Int32.ofInt 0))]) ⟨rfl, rfl, rfl, trivial⟩ rfl k
      have k := xt225_40 hp  ((J (p 4) 0).toNatClampNeg) (Int32.ofInt 0) (Int32.ofInt 0) (Int32.ofInt 0) (lx_beg (by decide)) k
      rw [k, x225_2, if_pos h9]
    · rw [if_neg h9] at k
      have k := ly_revb 2 (c' := (14, [(0, .ref (p 0)), (1, .int v1), (2, .int v2)], [.int v2, .int v1], me_w M J)) rfl k
      obtain ⟨d1, o1, ed, kc, k⟩ := lz_c (g := 209) (q := 0) (vs := [.int v1, .int v2]) (rest := []) rfl rfl (by decide) (Or.inl ⟨_, rfl, rfl⟩) rfl k
      have e1 := xt209  kc
      subst e1
      have k : nt_rn X _ 225 (17, [(0, .ref (p 0)), (1, .int v1), (2, .int v2)], [.int (x209 v1 v2)], me_w M J) _ := k
      have k := ly_revb 1 (c' := (if (x209 v1 v2) = 0 then 32 else 20, [(0, .ref (p 0)), (1, .int v1), (2, .int v2)], [], me_w M J)) rfl k
      by_cases h17 : (x209 v1 v2) = 0
      · rw [if_pos h17] at k
        have k := ly_revb 2 (c' := (2, [(2, .int (v2 + (Int32.ofInt 1))), (0, .ref (p 0)), (1, .int v1)], [], me_w M J)) rfl k
        have k := nt_rn_w (a := [(2, .int (v2 + (Int32.ofInt 1))), (0, .ref (p 0)), (1, .int v1)]) (b := [(0, .ref (p 0)), (1, .int v1), (2, .int (v2 + (Int32.ofInt 1)))]) ⟨rfl, rfl, rfl, trivial⟩ rfl k
        have k := ih (v2 + (Int32.ofInt 1)) (lx_dec h9 hc) k
        rw [k, x225_2, if_neg h9, if_pos h17]
      · rw [if_neg h17] at k
        have k := ly_revb 3 (c' := (23, [(0, .ref (p 0)), (1, .int v1), (2, .int v2)], [.int (Int32.ofInt 4), .int v2, .ref (p 0)], me_w M J)) rfl k
        obtain ⟨d1, o1, ed, kc, k⟩ := lz_c (g := 169) (q := 1) (vs := [.ref (p 0), .int v2, .int (Int32.ofInt 4)]) (rest := []) rfl rfl (by decide) (Or.inr (Or.inl ⟨_, rfl, rfl⟩)) rfl k
        have e1 := xt169 hp kc
        subst e1
        have k : nt_rn X _ 225 (26, [(0, .ref (p 0)), (1, .int v1), (2, .int v2)], [.int (x169 p v2 (Int32.ofInt 4) J)], me_w M J) _ := k
        have k := ly_revb 2 (c' := (if (x169 p v2 (Int32.ofInt 4) J) = (Int32.ofInt 2) then 30 else 32, [(0, .ref (p 0)), (1, .int v1), (2, .int v2)], [], me_w M J)) rfl k
        by_cases h27 : (x169 p v2 (Int32.ofInt 4) J) = (Int32.ofInt 2)
        · rw [if_pos h27] at k
          have k := ly_revb 1 (c' := (31, [(0, .ref (p 0)), (1, .int v1), (2, .int v2)], [.int (Int32.ofInt 0)], me_w M J)) rfl k
          have k := lz_ri rfl (by decide) k
          rw [k, x225_2, if_neg h9, if_neg h17, if_pos h27]
        · rw [if_neg h27] at k
          have k := ly_revb 2 (c' := (2, [(2, .int (v2 + (Int32.ofInt 1))), (0, .ref (p 0)), (1, .int v1)], [], me_w M J)) rfl k
          have k := nt_rn_w (a := [(2, .int (v2 + (Int32.ofInt 1))), (0, .ref (p 0)), (1, .int v1)]) (b := [(0, .ref (p 0)), (1, .int v1), (2, .int (v2 + (Int32.ofInt 1)))]) ⟨rfl, rfl, rfl, trivial⟩ rfl k
          have k := ih (v2 + (Int32.ofInt 1)) (lx_dec h9 hc) k
          rw [k, x225_2, if_neg h9, if_neg h17, if_neg h27]
theorem x225_2_rule {p : Nat → Nat} {v1 : Int32} {J : Nat → Nat → Int32} {I : Nat → Int32 → Prop} {Q : Int32 → Prop} (h0 : ∀ (v2 : Int32), I 0 v2 → Q (x225_40 p v1 J ((J (p 4) 0).toNatClampNeg) (Int32.ofInt 0))) (h1 : ∀ (c : Nat) (v2 : Int32), I (c + 1) v2 →
    if (J (p 4) 1) ≤ v2 then (Q (x225_40 p v1 J ((J (p 4) 0).toNatClampNeg) (Int32.ofInt 0)))
    else if (x209 v1 v2) = 0 then (I c (v2 + (Int32.ofInt 1)))
      else if (x169 p v2 (Int32.ofInt 4) J) = (Int32.ofInt 2) then (Q (Int32.ofInt 0))
        else (I c (v2 + (Int32.ofInt 1)))) : ∀ (c : Nat) (v2 : Int32), I c v2 → Q (x225_2 p v1 J c v2) := by
  intro c
  induction c with
  | zero =>
    intro v2 hi
    rw [x225_2]
    exact h0 v2 hi
  | succ c ih =>
    intro v2 hi
    have hi := h1 c v2 hi
    rw [x225_2]
    by_cases h : (J (p 4) 1) ≤ v2
    · rw [if_pos h] at hi ⊢
      exact hi
    · rw [if_neg h] at hi ⊢
      by_cases h : (x209 v1 v2) = 0
      · rw [if_pos h] at hi ⊢
        exact ih _ hi
      · rw [if_neg h] at hi ⊢
        by_cases h : (x169 p v2 (Int32.ofInt 4) J) = (Int32.ofInt 2)
        · rw [if_pos h] at hi ⊢
          exact hi
        · rw [if_neg h] at hi ⊢
          exact ih _ hi
def x225 (p : Nat → Nat) (v1 : Int32) (J : Nat → Nat → Int32) : Int32 := (x225_2 p v1 J ((J (p 4) 1).toNatClampNeg) (Int32.ofInt 0))
theorem xt225 {X : nt_X} {d : Nat} {M : nt_M} {o : Option Value × nt_M} {p : Nat → Nat} {v1 : Int32} {J : Nat → Nat → Int32} (hp : xs_P M p) (k : nt_ev X d 225 [.ref (p 0), .int v1] (me_w M J) o) : o = (some (.int (x225 p v1 J)), me_w M J) := by
  have k : nt_rn X d 225 (0, [(0, .ref (p 0)), (1, .int v1)], [], me_w M J) o := k
  have k := ly_revb 2 (c' := (2, [(2, .int (Int32.ofInt 0)), (0, .ref (p 0)), (1, .int v1)], [], me_w M J)) rfl k
  have k := nt_rn_w (a := [(2, .int (Int32.ofInt 0)), (0, .ref (p 0)), (1, .int v1)]) (b := [(0, .ref (p 0)), (1, .int v1), (2, .int (Int32.ofInt 0))]) ⟨rfl, rfl, rfl, trivial⟩ rfl k
  have k := xt225_2 hp  ((J (p 4) 1).toNatClampNeg) (Int32.ofInt 0) (lx_beg (by decide)) k
  rw [k, x225]
/-! Model.dealt -/
def x223_23 (p : Nat → Nat) (v1 : Int32) (J : Nat → Nat → Int32) : Nat → Int32 → Int32 → Int32
  | 0, v2, v3 => if v1 = 0 then (x224 p v2 J)
    else v2
  | c + 1, v2, v3 => if ((Int32.ofInt 1) <<< ((J (p 4) 1) &&& 31)) ≤ v3 then if v1 = 0 then (x224 p v2 J)
      else v2
    else if (x224 p v2 J) < (x224 p v3 J) then if (x225 p v3 J) = 0 then (x223_23 p v1 J c v2 (v3 + (Int32.ofInt 1)))
        else (x223_23 p v1 J c v3 (v3 + (Int32.ofInt 1)))
      else if (x224 p v3 J) = (x224 p v2 J) then if (x214 v2) ≤ (x214 v3) then (x223_23 p v1 J c v2 (v3 + (Int32.ofInt 1)))
          else if (x225 p v3 J) = 0 then (x223_23 p v1 J c v2 (v3 + (Int32.ofInt 1)))
            else (x223_23 p v1 J c v3 (v3 + (Int32.ofInt 1)))
        else (x223_23 p v1 J c v2 (v3 + (Int32.ofInt 1)))
theorem xt223_23 {X : nt_X} {d : Nat} {M : nt_M} {o : Option Value × nt_M} {p : Nat → Nat} {v1 : Int32} {J : Nat → Nat → Int32} (hp : xs_P M p) : ∀ (c : Nat) (v2 : Int32) (v3 : Int32) (v4 : Int32), ((Int32.ofInt 1) <<< ((J (p 4) 1) &&& 31)).toInt - v3.toInt ≤ c → nt_rn X d 223 (23, [(0, .ref (p 0)), (1, .int v1), (2, .int v2), (3, .int v3), (4, .int v4)], [], me_w M J) o → o = (some (.int (x223_23 p v1 J c v2 v3)), me_w M J) := by
  intro c
  induction c with
  | zero =>
    intro v2 v3 v4 hc k
    have k := ly_revb 3 (c' := (26, [(0, .ref (p 0)), (1, .int v1), (2, .int v2), (3, .int v3), (4, .int v4)], [.ref (p 0), .int (Int32.ofInt 1), .int v3], me_w M J)) rfl k
    have k := lz_get (a := (p 0)) (g := 1127) (M := me_w M J) (v := .ref (p 4)) rfl (nt_gfR rfl (hp.1 (0, 27, 4) (by decide))) k
    have k := ly_revb 1 (c' := (30, [(0, .ref (p 0)), (1, .int v1), (2, .int v2), (3, .int v3), (4, .int v4)], [.int (Int32.ofInt 1), .ref (p 4), .int (Int32.ofInt 1), .int v3], me_w M J)) rfl k
    have k := mx_iald (v := J (p 4) 1) rfl (hp.2.2.1 4 (by omega)) ((congrArg (J (p 4)) (show (Int32.ofInt 1).toNatClampNeg = 1 from rfl)).trans (rfl)) k
    have k := ly_revb 2 (c' := (if ((Int32.ofInt 1) <<< ((J (p 4) 1) &&& 31)) ≤ v3 then 100 else 35, [(0, .ref (p 0)), (1, .int v1), (2, .int v2), (3, .int v3), (4, .int v4)], [], me_w M J)) rfl k
    have h32 : ((Int32.ofInt 1) <<< ((J (p 4) 1) &&& 31)) ≤ v3 := lx_end hc
    rw [if_pos h32] at k
    have k := ly_revb 2 (c' := (if v1 = 0 then 104 else 112, [(0, .ref (p 0)), (1, .int v1), (2, .int v2), (3, .int v3), (4, .int v4)], [], me_w M J)) rfl k
    by_cases h101 : v1 = 0
    · rw [if_pos h101] at k
      have k := ly_revb 2 (c' := (106, [(0, .ref (p 0)), (1, .int v1), (2, .int v2), (3, .int v3), (4, .int v4)], [.int v2, .ref (p 0)], me_w M J)) rfl k
      obtain ⟨d1, o1, ed, kc, k⟩ := lz_c (g := 224) (q := 1) (vs := [.ref (p 0), .int v2]) (rest := []) rfl rfl (by decide) (Or.inr (Or.inl ⟨_, rfl, rfl⟩)) rfl k
      have e1 := xt224 hp kc
      subst e1
      have k : nt_rn X _ 223 (109, [(0, .ref (p 0)), (1, .int v1), (2, .int v2), (3, .int v3), (4, .int v4)], [.int (x224 p v2 J)], me_w M J) _ := k
      have k := ly_revb 1 (c' := (113, [(0, .ref (p 0)), (1, .int v1), (2, .int v2), (3, .int v3), (4, .int v4)], [.int (x224 p v2 J)], me_w M J)) rfl k
      have k := lz_ri rfl (by decide) k
      rw [k, x223_23, if_pos h101]
    · rw [if_neg h101] at k
      have k := ly_revb 1 (c' := (113, [(0, .ref (p 0)), (1, .int v1), (2, .int v2), (3, .int v3), (4, .int v4)], [.int v2], me_w M J)) rfl k
      have k := lz_ri rfl (by decide) k
      rw [k, x223_23, if_neg h101]
  | succ c ih =>
    intro v2 v3 v4 hc k
    have k := ly_revb 3 (c' := (26, [(0, .ref (p 0)), (1, .int v1), (2, .int v2), (3, .int v3), (4, .int v4)], [.ref (p 0), .int (Int32.ofInt 1), .int v3], me_w M J)) rfl k
    have k := lz_get (a := (p 0)) (g := 1127) (M := me_w M J) (v := .ref (p 4)) rfl (nt_gfR rfl (hp.1 (0, 27, 4) (by decide))) k
    have k := ly_revb 1 (c' := (30, [(0, .ref (p 0)), (1, .int v1), (2, .int v2), (3, .int v3), (4, .int v4)], [.int (Int32.ofInt 1), .ref (p 4), .int (Int32.ofInt 1), .int v3], me_w M J)) rfl k
    have k := mx_iald (v := J (p 4) 1) rfl (hp.2.2.1 4 (by omega)) ((congrArg (J (p 4)) (show (Int32.ofInt 1).toNatClampNeg = 1 from rfl)).trans (rfl)) k
    have k := ly_revb 2 (c' := (if ((Int32.ofInt 1) <<< ((J (p 4) 1) &&& 31)) ≤ v3 then 100 else 35, [(0, .ref (p 0)), (1, .int v1), (2, .int v2), (3, .int v3), (4, .int v4)], [], me_w M J)) rfl k
    by_cases h32 : ((Int32.ofInt 1) <<< ((J (p 4) 1) &&& 31)) ≤ v3
    · rw [if_pos h32] at k
      have k := ly_revb 2 (c' := (if v1 = 0 then 104 else 112, [(0, .ref (p 0)), (1, .int v1), (2, .int v2), (3, .int v3), (4, .int v4)], [], me_w M J)) rfl k
      by_cases h101 : v1 = 0
      · rw [if_pos h101] at k
        have k := ly_revb 2 (c' := (106, [(0, .ref (p 0)), (1, .int v1), (2, .int v2), (3, .int v3), (4, .int v4)], [.int v2, .ref (p 0)], me_w M J)) rfl k
        obtain ⟨d1, o1, ed, kc, k⟩ := lz_c (g := 224) (q := 1) (vs := [.ref (p 0), .int v2]) (rest := []) rfl rfl (by decide) (Or.inr (Or.inl ⟨_, rfl, rfl⟩)) rfl k
        have e1 := xt224 hp kc
        subst e1
        have k : nt_rn X _ 223 (109, [(0, .ref (p 0)), (1, .int v1), (2, .int v2), (3, .int v3), (4, .int v4)], [.int (x224 p v2 J)], me_w M J) _ := k
        have k := ly_revb 1 (c' := (113, [(0, .ref (p 0)), (1, .int v1), (2, .int v2), (3, .int v3), (4, .int v4)], [.int (x224 p v2 J)], me_w M J)) rfl k
        have k := lz_ri rfl (by decide) k
        rw [k, x223_23, if_pos h32, if_pos h101]
      · rw [if_neg h101] at k
        have k := ly_revb 1 (c' := (113, [(0, .ref (p 0)), (1, .int v1), (2, .int v2), (3, .int v3), (4, .int v4)], [.int v2], me_w M J)) rfl k
        have k := lz_ri rfl (by decide) k
        rw [k, x223_23, if_pos h32, if_neg h101]
    · rw [if_neg h32] at k
      have k := ly_revb 2 (c' := (37, [(0, .ref (p 0)), (1, .int v1), (2, .int v2), (3, .int v3), (4, .int v4)], [.int v3, .ref (p 0)], me_w M J)) rfl k
      obtain ⟨d1, o1, ed, kc, k⟩ := lz_c (g := 224) (q := 1) (vs := [.ref (p 0), .int v3]) (rest := []) rfl rfl (by decide) (Or.inr (Or.inl ⟨_, rfl, rfl⟩)) rfl k
      have e1 := xt224 hp kc
      subst e1
      have k : nt_rn X _ 223 (40, [(0, .ref (p 0)), (1, .int v1), (2, .int v2), (3, .int v3), (4, .int v4)], [.int (x224 p v3 J)], me_w M J) _ := k
      have k := ly_revb 2 (c' := (42, [(0, .ref (p 0)), (1, .int v1), (2, .int v2), (3, .int v3), (4, .int v4)], [.int v2, .ref (p 0), .int (x224 p v3 J)], me_w M J)) rfl k
      obtain ⟨d1, o1, ed, kc, k⟩ := lz_c (g := 224) (q := 1) (vs := [.ref (p 0), .int v2]) (rest := [.int (x224 p v3 J)]) rfl rfl (by decide) (Or.inr (Or.inl ⟨_, rfl, rfl⟩)) rfl k
      have e1 := xt224 hp kc
      subst e1
      have k : nt_rn X _ 223 (45, [(0, .ref (p 0)), (1, .int v1), (2, .int v2), (3, .int v3), (4, .int v4)], [.int (x224 p v2 J), .int (x224 p v3 J)], me_w M J) _ := k
      have k := ly_revb 1 (c' := (if (x224 p v2 J) < (x224 p v3 J) then 72 else 48, [(0, .ref (p 0)), (1, .int v1), (2, .int v2), (3, .int v3), (4, .int v4)], [], me_w M J)) rfl k
      by_cases h45 : (x224 p v2 J) < (x224 p v3 J)
      · rw [if_pos h45] at k
        have k := ly_revb 5 (c' := (if (Int32.ofInt 1) = 0 then 94 else 84, [(4, .int (Int32.ofInt 1)), (0, .ref (p 0)), (1, .int v1), (2, .int v2), (3, .int v3)], [], me_w M J)) rfl k
        rw [if_neg (show ¬ ((Int32.ofInt 1) = 0) from by decide)] at k
        have k := ly_revb 2 (c' := (86, [(4, .int (Int32.ofInt 1)), (0, .ref (p 0)), (1, .int v1), (2, .int v2), (3, .int v3)], [.int v3, .ref (p 0)], me_w M J)) rfl k
        obtain ⟨d1, o1, ed, kc, k⟩ := lz_c (g := 225) (q := 1) (vs := [.ref (p 0), .int v3]) (rest := []) rfl rfl (by decide) (Or.inr (Or.inl ⟨_, rfl, rfl⟩)) rfl k
        have e1 := xt225 hp kc
        subst e1
        have k : nt_rn X _ 223 (89, [(4, .int (Int32.ofInt 1)), (0, .ref (p 0)), (1, .int v1), (2, .int v2), (3, .int v3)], [.int (x225 p v3 J)], me_w M J) _ := k
        have k := ly_revb 1 (c' := (if (x225 p v3 J) = 0 then 94 else 92, [(4, .int (Int32.ofInt 1)), (0, .ref (p 0)), (1, .int v1), (2, .int v2), (3, .int v3)], [], me_w M J)) rfl k
        by_cases h89 : (x225 p v3 J) = 0
        · rw [if_pos h89] at k
          have k := ly_revb 2 (c' := (23, [(3, .int (v3 + (Int32.ofInt 1))), (4, .int (Int32.ofInt 1)), (0, .ref (p 0)), (1, .int v1), (2, .int v2)], [], me_w M J)) rfl k
          have k := nt_rn_w (a := [(3, .int (v3 + (Int32.ofInt 1))), (4, .int (Int32.ofInt 1)), (0, .ref (p 0)), (1, .int v1), (2, .int v2)]) (b := [(0, .ref (p 0)), (1, .int v1), (2, .int v2), (3, .int (v3 + (Int32.ofInt 1))), (4, .int (Int32.ofInt 1))]) ⟨rfl, rfl, rfl, rfl, rfl, trivial⟩ rfl k
          have k := ih v2 (v3 + (Int32.ofInt 1)) (Int32.ofInt 1) (lx_dec h32 hc) k
          rw [k, x223_23, if_neg h32, if_pos h45, if_pos h89]
        · rw [if_neg h89] at k
          have k := ly_revb 4 (c' := (23, [(3, .int (v3 + (Int32.ofInt 1))), (2, .int v3), (4, .int (Int32.ofInt 1)), (0, .ref (p 0)), (1, .int v1)], [], me_w M J)) rfl k
          have k := nt_rn_w (a := [(3, .int (v3 + (Int32.ofInt 1))), (2, .int v3), (4, .int (Int32.ofInt 1)), (0, .ref (p 0)), (1, .int v1)]) (b := [(0, .ref (p 0)), (1, .int v1), (2, .int v3), (3, .int (v3 + (Int32.ofInt 1))), (4, .int (Int32.ofInt 1))]) ⟨rfl, rfl, rfl, rfl, rfl, trivial⟩ rfl k
          have k := ih v3 (v3 + (Int32.ofInt 1)) (Int32.ofInt 1) (lx_dec h32 hc) k
          rw [k, x223_23, if_neg h32, if_pos h45, if_neg h89]
      · rw [if_neg h45] at k
        have k := ly_revb 2 (c' := (50, [(0, .ref (p 0)), (1, .int v1), (2, .int v2), (3, .int v3), (4, .int v4)], [.int v3, .ref (p 0)], me_w M J)) rfl k
        obtain ⟨d1, o1, ed, kc, k⟩ := lz_c (g := 224) (q := 1) (vs := [.ref (p 0), .int v3]) (rest := []) rfl rfl (by decide) (Or.inr (Or.inl ⟨_, rfl, rfl⟩)) rfl k
        have e1 := xt224 hp kc
        subst e1
        have k : nt_rn X _ 223 (53, [(0, .ref (p 0)), (1, .int v1), (2, .int v2), (3, .int v3), (4, .int v4)], [.int (x224 p v3 J)], me_w M J) _ := k
        have k := ly_revb 2 (c' := (55, [(0, .ref (p 0)), (1, .int v1), (2, .int v2), (3, .int v3), (4, .int v4)], [.int v2, .ref (p 0), .int (x224 p v3 J)], me_w M J)) rfl k
        obtain ⟨d1, o1, ed, kc, k⟩ := lz_c (g := 224) (q := 1) (vs := [.ref (p 0), .int v2]) (rest := [.int (x224 p v3 J)]) rfl rfl (by decide) (Or.inr (Or.inl ⟨_, rfl, rfl⟩)) rfl k
        have e1 := xt224 hp kc
        subst e1
        have k : nt_rn X _ 223 (58, [(0, .ref (p 0)), (1, .int v1), (2, .int v2), (3, .int v3), (4, .int v4)], [.int (x224 p v2 J), .int (x224 p v3 J)], me_w M J) _ := k
        have k := ly_revb 1 (c' := (if (x224 p v3 J) = (x224 p v2 J) then 61 else 76, [(0, .ref (p 0)), (1, .int v1), (2, .int v2), (3, .int v3), (4, .int v4)], [], me_w M J)) rfl k
        by_cases h58 : (x224 p v3 J) = (x224 p v2 J)
        · rw [if_pos h58] at k
          have k := ly_revb 1 (c' := (62, [(0, .ref (p 0)), (1, .int v1), (2, .int v2), (3, .int v3), (4, .int v4)], [.int v3], me_w M J)) rfl k
          obtain ⟨d1, o1, ed, kc, k⟩ := lz_c (g := 214) (q := 0) (vs := [.int v3]) (rest := []) rfl rfl (by decide) (Or.inl ⟨_, rfl, rfl⟩) rfl k
          have e1 := xt214  kc
          subst e1
          have k : nt_rn X _ 223 (65, [(0, .ref (p 0)), (1, .int v1), (2, .int v2), (3, .int v3), (4, .int v4)], [.int (x214 v3)], me_w M J) _ := k
          have k := ly_revb 1 (c' := (66, [(0, .ref (p 0)), (1, .int v1), (2, .int v2), (3, .int v3), (4, .int v4)], [.int v2, .int (x214 v3)], me_w M J)) rfl k
          obtain ⟨d1, o1, ed, kc, k⟩ := lz_c (g := 214) (q := 0) (vs := [.int v2]) (rest := [.int (x214 v3)]) rfl rfl (by decide) (Or.inl ⟨_, rfl, rfl⟩) rfl k
          have e1 := xt214  kc
          subst e1
          have k : nt_rn X _ 223 (69, [(0, .ref (p 0)), (1, .int v1), (2, .int v2), (3, .int v3), (4, .int v4)], [.int (x214 v2), .int (x214 v3)], me_w M J) _ := k
          have k := ly_revb 1 (c' := (if (x214 v2) ≤ (x214 v3) then 76 else 72, [(0, .ref (p 0)), (1, .int v1), (2, .int v2), (3, .int v3), (4, .int v4)], [], me_w M J)) rfl k
          by_cases h69 : (x214 v2) ≤ (x214 v3)
          · rw [if_pos h69] at k
            have k := ly_revb 4 (c' := (if (Int32.ofInt 0) = 0 then 94 else 84, [(4, .int (Int32.ofInt 0)), (0, .ref (p 0)), (1, .int v1), (2, .int v2), (3, .int v3)], [], me_w M J)) rfl k
            rw [if_pos (show (Int32.ofInt 0) = 0 from by decide)] at k
            have k := ly_revb 2 (c' := (23, [(3, .int (v3 + (Int32.ofInt 1))), (4, .int (Int32.ofInt 0)), (0, .ref (p 0)), (1, .int v1), (2, .int v2)], [], me_w M J)) rfl k
            have k := nt_rn_w (a := [(3, .int (v3 + (Int32.ofInt 1))), (4, .int (Int32.ofInt 0)), (0, .ref (p 0)), (1, .int v1), (2, .int v2)]) (b := [(0, .ref (p 0)), (1, .int v1), (2, .int v2), (3, .int (v3 + (Int32.ofInt 1))), (4, .int (Int32.ofInt 0))]) ⟨rfl, rfl, rfl, rfl, rfl, trivial⟩ rfl k
            have k := ih v2 (v3 + (Int32.ofInt 1)) (Int32.ofInt 0) (lx_dec h32 hc) k
            rw [k, x223_23, if_neg h32, if_neg h45, if_pos h58, if_pos h69]
          · rw [if_neg h69] at k
            have k := ly_revb 5 (c' := (if (Int32.ofInt 1) = 0 then 94 else 84, [(4, .int (Int32.ofInt 1)), (0, .ref (p 0)), (1, .int v1), (2, .int v2), (3, .int v3)], [], me_w M J)) rfl k
            rw [if_neg (show ¬ ((Int32.ofInt 1) = 0) from by decide)] at k
            have k := ly_revb 2 (c' := (86, [(4, .int (Int32.ofInt 1)), (0, .ref (p 0)), (1, .int v1), (2, .int v2), (3, .int v3)], [.int v3, .ref (p 0)], me_w M J)) rfl k
            obtain ⟨d1, o1, ed, kc, k⟩ := lz_c (g := 225) (q := 1) (vs := [.ref (p 0), .int v3]) (rest := []) rfl rfl (by decide) (Or.inr (Or.inl ⟨_, rfl, rfl⟩)) rfl k
            have e1 := xt225 hp kc
            subst e1
            have k : nt_rn X _ 223 (89, [(4, .int (Int32.ofInt 1)), (0, .ref (p 0)), (1, .int v1), (2, .int v2), (3, .int v3)], [.int (x225 p v3 J)], me_w M J) _ := k
            have k := ly_revb 1 (c' := (if (x225 p v3 J) = 0 then 94 else 92, [(4, .int (Int32.ofInt 1)), (0, .ref (p 0)), (1, .int v1), (2, .int v2), (3, .int v3)], [], me_w M J)) rfl k
            by_cases h89 : (x225 p v3 J) = 0
            · rw [if_pos h89] at k
              have k := ly_revb 2 (c' := (23, [(3, .int (v3 + (Int32.ofInt 1))), (4, .int (Int32.ofInt 1)), (0, .ref (p 0)), (1, .int v1), (2, .int v2)], [], me_w M J)) rfl k
              have k := nt_rn_w (a := [(3, .int (v3 + (Int32.ofInt 1))), (4, .int (Int32.ofInt 1)), (0, .ref (p 0)), (1, .int v1), (2, .int v2)]) (b := [(0, .ref (p 0)), (1, .int v1), (2, .int v2), (3, .int (v3 + (Int32.ofInt 1))), (4, .int (Int32.ofInt 1))]) ⟨rfl, rfl, rfl, rfl, rfl, trivial⟩ rfl k
              have k := ih v2 (v3 + (Int32.ofInt 1)) (Int32.ofInt 1) (lx_dec h32 hc) k
              rw [k, x223_23, if_neg h32, if_neg h45, if_pos h58, if_neg h69, if_pos h89]
            · rw [if_neg h89] at k
              have k := ly_revb 4 (c' := (23, [(3, .int (v3 + (Int32.ofInt 1))), (2, .int v3), (4, .int (Int32.ofInt 1)), (0, .ref (p 0)), (1, .int v1)], [], me_w M J)) rfl k
              have k := nt_rn_w (a := [(3, .int (v3 + (Int32.ofInt 1))), (2, .int v3), (4, .int (Int32.ofInt 1)), (0, .ref (p 0)), (1, .int v1)]) (b := [(0, .ref (p 0)), (1, .int v1), (2, .int v3), (3, .int (v3 + (Int32.ofInt 1))), (4, .int (Int32.ofInt 1))]) ⟨rfl, rfl, rfl, rfl, rfl, trivial⟩ rfl k
              have k := ih v3 (v3 + (Int32.ofInt 1)) (Int32.ofInt 1) (lx_dec h32 hc) k
              rw [k, x223_23, if_neg h32, if_neg h45, if_pos h58, if_neg h69, if_neg h89]
        · rw [if_neg h58] at k
          have k := ly_revb 4 (c' := (if (Int32.ofInt 0) = 0 then 94 else 84, [(4, .int (Int32.ofInt 0)), (0, .ref (p 0)), (1, .int v1), (2, .int v2), (3, .int v3)], [], me_w M J)) rfl k
          rw [if_pos (show (Int32.ofInt 0) = 0 from by decide)] at k
          have k := ly_revb 2 (c' := (23, [(3, .int (v3 + (Int32.ofInt 1))), (4, .int (Int32.ofInt 0)), (0, .ref (p 0)), (1, .int v1), (2, .int v2)], [], me_w M J)) rfl k
          have k := nt_rn_w (a := [(3, .int (v3 + (Int32.ofInt 1))), (4, .int (Int32.ofInt 0)), (0, .ref (p 0)), (1, .int v1), (2, .int v2)]) (b := [(0, .ref (p 0)), (1, .int v1), (2, .int v2), (3, .int (v3 + (Int32.ofInt 1))), (4, .int (Int32.ofInt 0))]) ⟨rfl, rfl, rfl, rfl, rfl, trivial⟩ rfl k
          have k := ih v2 (v3 + (Int32.ofInt 1)) (Int32.ofInt 0) (lx_dec h32 hc) k
          rw [k, x223_23, if_neg h32, if_neg h45, if_neg h58]
theorem x223_23_rule {p : Nat → Nat} {v1 : Int32} {J : Nat → Nat → Int32} {I : Nat → Int32 → Int32 → Prop} {Q : Int32 → Prop} (h0 : ∀ (v2 : Int32) (v3 : Int32), I 0 v2 v3 → Q (if v1 = 0 then (x224 p v2 J)
    else v2)) (h1 : ∀ (c : Nat) (v2 : Int32) (v3 : Int32), I (c + 1) v2 v3 →
    if ((Int32.ofInt 1) <<< ((J (p 4) 1) &&& 31)) ≤ v3 then if v1 = 0 then (Q (x224 p v2 J))
      else (Q v2)
    else if (x224 p v2 J) < (x224 p v3 J) then if (x225 p v3 J) = 0 then (I c v2 (v3 + (Int32.ofInt 1)))
        else (I c v3 (v3 + (Int32.ofInt 1)))
      else if (x224 p v3 J) = (x224 p v2 J) then if (x214 v2) ≤ (x214 v3) then (I c v2 (v3 + (Int32.ofInt 1)))
          else if (x225 p v3 J) = 0 then (I c v2 (v3 + (Int32.ofInt 1)))
            else (I c v3 (v3 + (Int32.ofInt 1)))
        else (I c v2 (v3 + (Int32.ofInt 1)))) : ∀ (c : Nat) (v2 : Int32) (v3 : Int32), I c v2 v3 → Q (x223_23 p v1 J c v2 v3) := by
  intro c
  induction c with
  | zero =>
    intro v2 v3 hi
    rw [x223_23]
    exact h0 v2 v3 hi
  | succ c ih =>
    intro v2 v3 hi
    have hi := h1 c v2 v3 hi
    rw [x223_23]
    by_cases h : ((Int32.ofInt 1) <<< ((J (p 4) 1) &&& 31)) ≤ v3
    · rw [if_pos h] at hi ⊢
      by_cases h : v1 = 0
      · rw [if_pos h] at hi ⊢
        exact hi
      · rw [if_neg h] at hi ⊢
        exact hi
    · rw [if_neg h] at hi ⊢
      by_cases h : (x224 p v2 J) < (x224 p v3 J)
      · rw [if_pos h] at hi ⊢
        by_cases h : (x225 p v3 J) = 0
        · rw [if_pos h] at hi ⊢
          exact ih _ _ hi
        · rw [if_neg h] at hi ⊢
          exact ih _ _ hi
      · rw [if_neg h] at hi ⊢
        by_cases h : (x224 p v3 J) = (x224 p v2 J)
        · rw [if_pos h] at hi ⊢
          by_cases h : (x214 v2) ≤ (x214 v3)
          · rw [if_pos h] at hi ⊢
            exact ih _ _ hi
          · rw [if_neg h] at hi ⊢
            by_cases h : (x225 p v3 J) = 0
            · rw [if_pos h] at hi ⊢
              exact ih _ _ hi
            · rw [if_neg h] at hi ⊢
              exact ih _ _ hi
        · rw [if_neg h] at hi ⊢
          exact ih _ _ hi
def x223 (p : Nat → Nat) (v1 : Int32) (J : Nat → Nat → Int32) : Int32 := if (x188 p J) = 0 then (Int32.ofInt (-1))
  else if (x145 v1.toInt64 (Int64.ofNat 0) (Int64.ofNat 1)) = 0 then (Int32.ofInt (-1))
    else (x223_23 p v1 J (((Int32.ofInt 1) <<< ((J (p 4) 1) &&& 31)).toNatClampNeg) (Int32.ofInt 0) (Int32.ofInt 1))
theorem xt223 {X : nt_X} {d : Nat} {M : nt_M} {o : Option Value × nt_M} {p : Nat → Nat} {v1 : Int32} {J : Nat → Nat → Int32} (hp : xs_P M p) (k : nt_ev X d 223 [.ref (p 0), .int v1] (me_w M J) o) : o = (some (.int (x223 p v1 J)), me_w M J) := by
  have k : nt_rn X d 223 (0, [(0, .ref (p 0)), (1, .int v1)], [], me_w M J) o := k
  have k := ly_revb 1 (c' := (1, [(0, .ref (p 0)), (1, .int v1)], [.ref (p 0)], me_w M J)) rfl k
  obtain ⟨d1, o1, ed, kc, k⟩ := lz_c (g := 188) (q := 1) (vs := [.ref (p 0)]) (rest := []) rfl rfl (by decide) (Or.inr (Or.inl ⟨_, rfl, rfl⟩)) rfl k
  have e1 := xt188 hp kc
  subst e1
  have k : nt_rn X _ 223 (4, [(0, .ref (p 0)), (1, .int v1)], [.int (x188 p J)], me_w M J) _ := k
  have k := ly_revb 1 (c' := (if (x188 p J) = 0 then 17 else 7, [(0, .ref (p 0)), (1, .int v1)], [], me_w M J)) rfl k
  by_cases h4 : (x188 p J) = 0
  · rw [if_pos h4] at k
    have k := ly_revb 1 (c' := (18, [(0, .ref (p 0)), (1, .int v1)], [.int (Int32.ofInt (-1))], me_w M J)) rfl k
    have k := lz_ri rfl (by decide) k
    rw [k, x223, if_pos h4]
  · rw [if_neg h4] at k
    have k := ly_revb 4 (c' := (11, [(0, .ref (p 0)), (1, .int v1)], [.long (Int64.ofNat 1), .long (Int64.ofNat 0), .long v1.toInt64], me_w M J)) rfl k
    obtain ⟨d1, o1, ed, kc, k⟩ := lz_c (g := 145) (q := 0) (vs := [.long v1.toInt64, .long (Int64.ofNat 0), .long (Int64.ofNat 1)]) (rest := []) rfl rfl (by decide) (Or.inl ⟨_, rfl, rfl⟩) rfl k
    have e1 := xt145  kc
    subst e1
    have k : nt_rn X _ 223 (14, [(0, .ref (p 0)), (1, .int v1)], [.int (x145 v1.toInt64 (Int64.ofNat 0) (Int64.ofNat 1))], me_w M J) _ := k
    have k := ly_revb 1 (c' := (if (x145 v1.toInt64 (Int64.ofNat 0) (Int64.ofNat 1)) = 0 then 17 else 19, [(0, .ref (p 0)), (1, .int v1)], [], me_w M J)) rfl k
    by_cases h14 : (x145 v1.toInt64 (Int64.ofNat 0) (Int64.ofNat 1)) = 0
    · rw [if_pos h14] at k
      have k := ly_revb 1 (c' := (18, [(0, .ref (p 0)), (1, .int v1)], [.int (Int32.ofInt (-1))], me_w M J)) rfl k
      have k := lz_ri rfl (by decide) k
      rw [k, x223, if_neg h4, if_pos h14]
    · rw [if_neg h14] at k
      have k := ly_revb 4 (c' := (23, [(3, .int (Int32.ofInt 1)), (2, .int (Int32.ofInt 0)), (0, .ref (p 0)), (1, .int v1)], [], me_w M J)) rfl k
      have k := nt_rn_w (a := [(3, .int (Int32.ofInt 1)), (2, .int (Int32.ofInt 0)), (0, .ref (p 0)), (1, .int v1)]) (b := [(0, .ref (p 0)), (1, .int v1), (2, .int (Int32.ofInt 0)), (3, .int (Int32.ofInt 1)), (4, .int (Int32.ofInt 0))]) ⟨rfl, rfl, rfl, rfl, trivial⟩ rfl k
      have k := xt223_23 hp  (((Int32.ofInt 1) <<< ((J (p 4) 1) &&& 31)).toNatClampNeg) (Int32.ofInt 0) (Int32.ofInt 1) (Int32.ofInt 0) (lx_beg (by decide)) k
      rw [k, x223, if_neg h4, if_neg h14]
/-! Model.leastRot -/
def x216_6 (p : Nat → Nat) (v1 : Int32) (v2 : Int32) (v3 : Int32) (J : Nat → Nat → Int32) : Nat → Int32 → Int32 → Int32
  | 0, v4, v5 => v4
  | c + 1, v4, v5 => if (J (p 4) 2) ≤ v5 then v4
    else if (x183 p v5 J) = 0 then (x216_6 p v1 v2 v3 J c v4 (v5 + (Int32.ofInt 1)))
      else if (x173 p v5 (Int32.ofInt 0) J) = v1 then if (x173 p v5 (Int32.ofInt 1) J) < v2 then (x216_6 p v1 v2 v3 J c v4 (v5 + (Int32.ofInt 1)))
          else if (x209 v3 v5) = 0 then if v4 < 0 then (x216_6 p v1 v2 v3 J c v5 (v5 + (Int32.ofInt 1)))
              else if (x173 p v4 (Int32.ofInt 1) J) ≤ (x173 p v5 (Int32.ofInt 1) J) then (x216_6 p v1 v2 v3 J c v4 (v5 + (Int32.ofInt 1)))
                else (x216_6 p v1 v2 v3 J c v5 (v5 + (Int32.ofInt 1)))
            else (x216_6 p v1 v2 v3 J c v4 (v5 + (Int32.ofInt 1)))
        else (x216_6 p v1 v2 v3 J c v4 (v5 + (Int32.ofInt 1)))
theorem xt216_6 {X : nt_X} {d : Nat} {M : nt_M} {o : Option Value × nt_M} {p : Nat → Nat} {v1 : Int32} {v2 : Int32} {v3 : Int32} {J : Nat → Nat → Int32} (hp : xs_P M p) : ∀ (c : Nat) (v4 : Int32) (v5 : Int32), (J (p 4) 2).toInt - v5.toInt ≤ c → nt_rn X d 216 (6, [(0, .ref (p 0)), (1, .int v1), (2, .int v2), (3, .int v3), (4, .int v4), (5, .int v5)], [], me_w M J) o → o = (some (.int (x216_6 p v1 v2 v3 J c v4 v5)), me_w M J) := by
  intro c
  induction c with
  | zero =>
    intro v4 v5 hc k
    have k := ly_revb 2 (c' := (9, [(0, .ref (p 0)), (1, .int v1), (2, .int v2), (3, .int v3), (4, .int v4), (5, .int v5)], [.ref (p 0), .int v5], me_w M J)) rfl k
    have k := lz_get (a := (p 0)) (g := 1127) (M := me_w M J) (v := .ref (p 4)) rfl (nt_gfR rfl (hp.1 (0, 27, 4) (by decide))) k
    have k := ly_revb 1 (c' := (13, [(0, .ref (p 0)), (1, .int v1), (2, .int v2), (3, .int v3), (4, .int v4), (5, .int v5)], [.int (Int32.ofInt 2), .ref (p 4), .int v5], me_w M J)) rfl k
    have k := mx_iald (v := J (p 4) 2) rfl (hp.2.2.1 4 (by omega)) ((congrArg (J (p 4)) (show (Int32.ofInt 2).toNatClampNeg = 2 from rfl)).trans (rfl)) k
    have k := ly_revb 1 (c' := (if (J (p 4) 2) ≤ v5 then 97 else 17, [(0, .ref (p 0)), (1, .int v1), (2, .int v2), (3, .int v3), (4, .int v4), (5, .int v5)], [], me_w M J)) rfl k
    have h14 : (J (p 4) 2) ≤ v5 := lx_end hc
    rw [if_pos h14] at k
    have k := ly_revb 1 (c' := (99, [(0, .ref (p 0)), (1, .int v1), (2, .int v2), (3, .int v3), (4, .int v4), (5, .int v5)], [.int v4], me_w M J)) rfl k
    have k := lz_ri rfl (by decide) k
    rw [k, x216_6]
  | succ c ih =>
    intro v4 v5 hc k
    have k := ly_revb 2 (c' := (9, [(0, .ref (p 0)), (1, .int v1), (2, .int v2), (3, .int v3), (4, .int v4), (5, .int v5)], [.ref (p 0), .int v5], me_w M J)) rfl k
    have k := lz_get (a := (p 0)) (g := 1127) (M := me_w M J) (v := .ref (p 4)) rfl (nt_gfR rfl (hp.1 (0, 27, 4) (by decide))) k
    have k := ly_revb 1 (c' := (13, [(0, .ref (p 0)), (1, .int v1), (2, .int v2), (3, .int v3), (4, .int v4), (5, .int v5)], [.int (Int32.ofInt 2), .ref (p 4), .int v5], me_w M J)) rfl k
    have k := mx_iald (v := J (p 4) 2) rfl (hp.2.2.1 4 (by omega)) ((congrArg (J (p 4)) (show (Int32.ofInt 2).toNatClampNeg = 2 from rfl)).trans (rfl)) k
    have k := ly_revb 1 (c' := (if (J (p 4) 2) ≤ v5 then 97 else 17, [(0, .ref (p 0)), (1, .int v1), (2, .int v2), (3, .int v3), (4, .int v4), (5, .int v5)], [], me_w M J)) rfl k
    by_cases h14 : (J (p 4) 2) ≤ v5
    · rw [if_pos h14] at k
      have k := ly_revb 1 (c' := (99, [(0, .ref (p 0)), (1, .int v1), (2, .int v2), (3, .int v3), (4, .int v4), (5, .int v5)], [.int v4], me_w M J)) rfl k
      have k := lz_ri rfl (by decide) k
      rw [k, x216_6, if_pos h14]
    · rw [if_neg h14] at k
      have k := ly_revb 2 (c' := (20, [(0, .ref (p 0)), (1, .int v1), (2, .int v2), (3, .int v3), (4, .int v4), (5, .int v5)], [.int v5, .ref (p 0)], me_w M J)) rfl k
      obtain ⟨d1, o1, ed, kc, k⟩ := lz_c (g := 183) (q := 1) (vs := [.ref (p 0), .int v5]) (rest := []) rfl rfl (by decide) (Or.inr (Or.inl ⟨_, rfl, rfl⟩)) rfl k
      have e1 := xt183 hp kc
      subst e1
      have k : nt_rn X _ 216 (23, [(0, .ref (p 0)), (1, .int v1), (2, .int v2), (3, .int v3), (4, .int v4), (5, .int v5)], [.int (x183 p v5 J)], me_w M J) _ := k
      have k := ly_revb 1 (c' := (if (x183 p v5 J) = 0 then 91 else 26, [(0, .ref (p 0)), (1, .int v1), (2, .int v2), (3, .int v3), (4, .int v4), (5, .int v5)], [], me_w M J)) rfl k
      by_cases h23 : (x183 p v5 J) = 0
      · rw [if_pos h23] at k
        have k := ly_revb 2 (c' := (6, [(5, .int (v5 + (Int32.ofInt 1))), (0, .ref (p 0)), (1, .int v1), (2, .int v2), (3, .int v3), (4, .int v4)], [], me_w M J)) rfl k
        have k := nt_rn_w (a := [(5, .int (v5 + (Int32.ofInt 1))), (0, .ref (p 0)), (1, .int v1), (2, .int v2), (3, .int v3), (4, .int v4)]) (b := [(0, .ref (p 0)), (1, .int v1), (2, .int v2), (3, .int v3), (4, .int v4), (5, .int (v5 + (Int32.ofInt 1)))]) ⟨rfl, rfl, rfl, rfl, rfl, rfl, trivial⟩ rfl k
        have k := ih v4 (v5 + (Int32.ofInt 1)) (lx_dec h14 hc) k
        rw [k, x216_6, if_neg h14, if_pos h23]
      · rw [if_neg h23] at k
        have k := ly_revb 3 (c' := (30, [(0, .ref (p 0)), (1, .int v1), (2, .int v2), (3, .int v3), (4, .int v4), (5, .int v5)], [.int (Int32.ofInt 0), .int v5, .ref (p 0)], me_w M J)) rfl k
        obtain ⟨d1, o1, ed, kc, k⟩ := lz_c (g := 173) (q := 1) (vs := [.ref (p 0), .int v5, .int (Int32.ofInt 0)]) (rest := []) rfl rfl (by decide) (Or.inr (Or.inl ⟨_, rfl, rfl⟩)) rfl k
        have e1 := xt173 hp kc
        subst e1
        have k : nt_rn X _ 216 (33, [(0, .ref (p 0)), (1, .int v1), (2, .int v2), (3, .int v3), (4, .int v4), (5, .int v5)], [.int (x173 p v5 (Int32.ofInt 0) J)], me_w M J) _ := k
        have k := ly_revb 2 (c' := (if (x173 p v5 (Int32.ofInt 0) J) = v1 then 37 else 91, [(0, .ref (p 0)), (1, .int v1), (2, .int v2), (3, .int v3), (4, .int v4), (5, .int v5)], [], me_w M J)) rfl k
        by_cases h34 : (x173 p v5 (Int32.ofInt 0) J) = v1
        · rw [if_pos h34] at k
          have k := ly_revb 3 (c' := (41, [(0, .ref (p 0)), (1, .int v1), (2, .int v2), (3, .int v3), (4, .int v4), (5, .int v5)], [.int (Int32.ofInt 1), .int v5, .ref (p 0)], me_w M J)) rfl k
          obtain ⟨d1, o1, ed, kc, k⟩ := lz_c (g := 173) (q := 1) (vs := [.ref (p 0), .int v5, .int (Int32.ofInt 1)]) (rest := []) rfl rfl (by decide) (Or.inr (Or.inl ⟨_, rfl, rfl⟩)) rfl k
          have e1 := xt173 hp kc
          subst e1
          have k : nt_rn X _ 216 (44, [(0, .ref (p 0)), (1, .int v1), (2, .int v2), (3, .int v3), (4, .int v4), (5, .int v5)], [.int (x173 p v5 (Int32.ofInt 1) J)], me_w M J) _ := k
          have k := ly_revb 2 (c' := (if (x173 p v5 (Int32.ofInt 1) J) < v2 then 91 else 48, [(0, .ref (p 0)), (1, .int v1), (2, .int v2), (3, .int v3), (4, .int v4), (5, .int v5)], [], me_w M J)) rfl k
          by_cases h45 : (x173 p v5 (Int32.ofInt 1) J) < v2
          · rw [if_pos h45] at k
            have k := ly_revb 2 (c' := (6, [(5, .int (v5 + (Int32.ofInt 1))), (0, .ref (p 0)), (1, .int v1), (2, .int v2), (3, .int v3), (4, .int v4)], [], me_w M J)) rfl k
            have k := nt_rn_w (a := [(5, .int (v5 + (Int32.ofInt 1))), (0, .ref (p 0)), (1, .int v1), (2, .int v2), (3, .int v3), (4, .int v4)]) (b := [(0, .ref (p 0)), (1, .int v1), (2, .int v2), (3, .int v3), (4, .int v4), (5, .int (v5 + (Int32.ofInt 1)))]) ⟨rfl, rfl, rfl, rfl, rfl, rfl, trivial⟩ rfl k
            have k := ih v4 (v5 + (Int32.ofInt 1)) (lx_dec h14 hc) k
            rw [k, x216_6, if_neg h14, if_neg h23, if_pos h34, if_pos h45]
          · rw [if_neg h45] at k
            have k := ly_revb 2 (c' := (51, [(0, .ref (p 0)), (1, .int v1), (2, .int v2), (3, .int v3), (4, .int v4), (5, .int v5)], [.int v5, .int v3], me_w M J)) rfl k
            obtain ⟨d1, o1, ed, kc, k⟩ := lz_c (g := 209) (q := 0) (vs := [.int v3, .int v5]) (rest := []) rfl rfl (by decide) (Or.inl ⟨_, rfl, rfl⟩) rfl k
            have e1 := xt209  kc
            subst e1
            have k : nt_rn X _ 216 (54, [(0, .ref (p 0)), (1, .int v1), (2, .int v2), (3, .int v3), (4, .int v4), (5, .int v5)], [.int (x209 v3 v5)], me_w M J) _ := k
            have k := ly_revb 1 (c' := (if (x209 v3 v5) = 0 then 60 else 57, [(0, .ref (p 0)), (1, .int v1), (2, .int v2), (3, .int v3), (4, .int v4), (5, .int v5)], [], me_w M J)) rfl k
            by_cases h54 : (x209 v3 v5) = 0
            · rw [if_pos h54] at k
              have k := ly_revb 2 (c' := (if v4 < 0 then 82 else 65, [(0, .ref (p 0)), (1, .int v1), (2, .int v2), (3, .int v3), (4, .int v4), (5, .int v5)], [], me_w M J)) rfl k
              by_cases h62 : v4 < 0
              · rw [if_pos h62] at k
                have k := ly_revb 5 (c' := (6, [(5, .int (v5 + (Int32.ofInt 1))), (4, .int v5), (0, .ref (p 0)), (1, .int v1), (2, .int v2), (3, .int v3)], [], me_w M J)) rfl k
                have k := nt_rn_w (a := [(5, .int (v5 + (Int32.ofInt 1))), (4, .int v5), (0, .ref (p 0)), (1, .int v1), (2, .int v2), (3, .int v3)]) (b := [(0, .ref (p 0)), (1, .int v1), (2, .int v2), (3, .int v3), (4, .int v5), (5, .int (v5 + (Int32.ofInt 1)))]) ⟨rfl, rfl, rfl, rfl, rfl, rfl, trivial⟩ rfl k
                have k := ih v5 (v5 + (Int32.ofInt 1)) (lx_dec h14 hc) k
                rw [k, x216_6, if_neg h14, if_neg h23, if_pos h34, if_neg h45, if_pos h54, if_pos h62]
              · rw [if_neg h62] at k
                have k := ly_revb 3 (c' := (69, [(0, .ref (p 0)), (1, .int v1), (2, .int v2), (3, .int v3), (4, .int v4), (5, .int v5)], [.int (Int32.ofInt 1), .int v5, .ref (p 0)], me_w M J)) rfl k
                obtain ⟨d1, o1, ed, kc, k⟩ := lz_c (g := 173) (q := 1) (vs := [.ref (p 0), .int v5, .int (Int32.ofInt 1)]) (rest := []) rfl rfl (by decide) (Or.inr (Or.inl ⟨_, rfl, rfl⟩)) rfl k
                have e1 := xt173 hp kc
                subst e1
                have k : nt_rn X _ 216 (72, [(0, .ref (p 0)), (1, .int v1), (2, .int v2), (3, .int v3), (4, .int v4), (5, .int v5)], [.int (x173 p v5 (Int32.ofInt 1) J)], me_w M J) _ := k
                have k := ly_revb 3 (c' := (76, [(0, .ref (p 0)), (1, .int v1), (2, .int v2), (3, .int v3), (4, .int v4), (5, .int v5)], [.int (Int32.ofInt 1), .int v4, .ref (p 0), .int (x173 p v5 (Int32.ofInt 1) J)], me_w M J)) rfl k
                obtain ⟨d1, o1, ed, kc, k⟩ := lz_c (g := 173) (q := 1) (vs := [.ref (p 0), .int v4, .int (Int32.ofInt 1)]) (rest := [.int (x173 p v5 (Int32.ofInt 1) J)]) rfl rfl (by decide) (Or.inr (Or.inl ⟨_, rfl, rfl⟩)) rfl k
                have e1 := xt173 hp kc
                subst e1
                have k : nt_rn X _ 216 (79, [(0, .ref (p 0)), (1, .int v1), (2, .int v2), (3, .int v3), (4, .int v4), (5, .int v5)], [.int (x173 p v4 (Int32.ofInt 1) J), .int (x173 p v5 (Int32.ofInt 1) J)], me_w M J) _ := k
                have k := ly_revb 1 (c' := (if (x173 p v4 (Int32.ofInt 1) J) ≤ (x173 p v5 (Int32.ofInt 1) J) then 87 else 82, [(0, .ref (p 0)), (1, .int v1), (2, .int v2), (3, .int v3), (4, .int v4), (5, .int v5)], [], me_w M J)) rfl k
                by_cases h79 : (x173 p v4 (Int32.ofInt 1) J) ≤ (x173 p v5 (Int32.ofInt 1) J)
                · rw [if_pos h79] at k
                  have k := ly_revb 4 (c' := (6, [(5, .int (v5 + (Int32.ofInt 1))), (4, .int v4), (0, .ref (p 0)), (1, .int v1), (2, .int v2), (3, .int v3)], [], me_w M J)) rfl k
                  have k := nt_rn_w (a := [(5, .int (v5 + (Int32.ofInt 1))), (4, .int v4), (0, .ref (p 0)), (1, .int v1), (2, .int v2), (3, .int v3)]) (b := [(0, .ref (p 0)), (1, .int v1), (2, .int v2), (3, .int v3), (4, .int v4), (5, .int (v5 + (Int32.ofInt 1)))]) ⟨rfl, rfl, rfl, rfl, rfl, rfl, trivial⟩ rfl k
                  have k := ih v4 (v5 + (Int32.ofInt 1)) (lx_dec h14 hc) k
                  rw [k, x216_6, if_neg h14, if_neg h23, if_pos h34, if_neg h45, if_pos h54, if_neg h62, if_pos h79]
                · rw [if_neg h79] at k
                  have k := ly_revb 5 (c' := (6, [(5, .int (v5 + (Int32.ofInt 1))), (4, .int v5), (0, .ref (p 0)), (1, .int v1), (2, .int v2), (3, .int v3)], [], me_w M J)) rfl k
                  have k := nt_rn_w (a := [(5, .int (v5 + (Int32.ofInt 1))), (4, .int v5), (0, .ref (p 0)), (1, .int v1), (2, .int v2), (3, .int v3)]) (b := [(0, .ref (p 0)), (1, .int v1), (2, .int v2), (3, .int v3), (4, .int v5), (5, .int (v5 + (Int32.ofInt 1)))]) ⟨rfl, rfl, rfl, rfl, rfl, rfl, trivial⟩ rfl k
                  have k := ih v5 (v5 + (Int32.ofInt 1)) (lx_dec h14 hc) k
                  rw [k, x216_6, if_neg h14, if_neg h23, if_pos h34, if_neg h45, if_pos h54, if_neg h62, if_neg h79]
            · rw [if_neg h54] at k
              have k := ly_revb 3 (c' := (6, [(5, .int (v5 + (Int32.ofInt 1))), (0, .ref (p 0)), (1, .int v1), (2, .int v2), (3, .int v3), (4, .int v4)], [], me_w M J)) rfl k
              have k := nt_rn_w (a := [(5, .int (v5 + (Int32.ofInt 1))), (0, .ref (p 0)), (1, .int v1), (2, .int v2), (3, .int v3), (4, .int v4)]) (b := [(0, .ref (p 0)), (1, .int v1), (2, .int v2), (3, .int v3), (4, .int v4), (5, .int (v5 + (Int32.ofInt 1)))]) ⟨rfl, rfl, rfl, rfl, rfl, rfl, trivial⟩ rfl k
              have k := ih v4 (v5 + (Int32.ofInt 1)) (lx_dec h14 hc) k
              rw [k, x216_6, if_neg h14, if_neg h23, if_pos h34, if_neg h45, if_neg h54]
        · rw [if_neg h34] at k
          have k := ly_revb 2 (c' := (6, [(5, .int (v5 + (Int32.ofInt 1))), (0, .ref (p 0)), (1, .int v1), (2, .int v2), (3, .int v3), (4, .int v4)], [], me_w M J)) rfl k
          have k := nt_rn_w (a := [(5, .int (v5 + (Int32.ofInt 1))), (0, .ref (p 0)), (1, .int v1), (2, .int v2), (3, .int v3), (4, .int v4)]) (b := [(0, .ref (p 0)), (1, .int v1), (2, .int v2), (3, .int v3), (4, .int v4), (5, .int (v5 + (Int32.ofInt 1)))]) ⟨rfl, rfl, rfl, rfl, rfl, rfl, trivial⟩ rfl k
          have k := ih v4 (v5 + (Int32.ofInt 1)) (lx_dec h14 hc) k
          rw [k, x216_6, if_neg h14, if_neg h23, if_neg h34]
theorem x216_6_rule {p : Nat → Nat} {v1 : Int32} {v2 : Int32} {v3 : Int32} {J : Nat → Nat → Int32} {I : Nat → Int32 → Int32 → Prop} {Q : Int32 → Prop} (h0 : ∀ (v4 : Int32) (v5 : Int32), I 0 v4 v5 → Q v4) (h1 : ∀ (c : Nat) (v4 : Int32) (v5 : Int32), I (c + 1) v4 v5 →
    if (J (p 4) 2) ≤ v5 then (Q v4)
    else if (x183 p v5 J) = 0 then (I c v4 (v5 + (Int32.ofInt 1)))
      else if (x173 p v5 (Int32.ofInt 0) J) = v1 then if (x173 p v5 (Int32.ofInt 1) J) < v2 then (I c v4 (v5 + (Int32.ofInt 1)))
          else if (x209 v3 v5) = 0 then if v4 < 0 then (I c v5 (v5 + (Int32.ofInt 1)))
              else if (x173 p v4 (Int32.ofInt 1) J) ≤ (x173 p v5 (Int32.ofInt 1) J) then (I c v4 (v5 + (Int32.ofInt 1)))
                else (I c v5 (v5 + (Int32.ofInt 1)))
            else (I c v4 (v5 + (Int32.ofInt 1)))
        else (I c v4 (v5 + (Int32.ofInt 1)))) : ∀ (c : Nat) (v4 : Int32) (v5 : Int32), I c v4 v5 → Q (x216_6 p v1 v2 v3 J c v4 v5) := by
  intro c
  induction c with
  | zero =>
    intro v4 v5 hi
    rw [x216_6]
    exact h0 v4 v5 hi
  | succ c ih =>
    intro v4 v5 hi
    have hi := h1 c v4 v5 hi
    rw [x216_6]
    by_cases h : (J (p 4) 2) ≤ v5
    · rw [if_pos h] at hi ⊢
      exact hi
    · rw [if_neg h] at hi ⊢
      by_cases h : (x183 p v5 J) = 0
      · rw [if_pos h] at hi ⊢
        exact ih _ _ hi
      · rw [if_neg h] at hi ⊢
        by_cases h : (x173 p v5 (Int32.ofInt 0) J) = v1
        · rw [if_pos h] at hi ⊢
          by_cases h : (x173 p v5 (Int32.ofInt 1) J) < v2
          · rw [if_pos h] at hi ⊢
            exact ih _ _ hi
          · rw [if_neg h] at hi ⊢
            by_cases h : (x209 v3 v5) = 0
            · rw [if_pos h] at hi ⊢
              by_cases h : v4 < 0
              · rw [if_pos h] at hi ⊢
                exact ih _ _ hi
              · rw [if_neg h] at hi ⊢
                by_cases h : (x173 p v4 (Int32.ofInt 1) J) ≤ (x173 p v5 (Int32.ofInt 1) J)
                · rw [if_pos h] at hi ⊢
                  exact ih _ _ hi
                · rw [if_neg h] at hi ⊢
                  exact ih _ _ hi
            · rw [if_neg h] at hi ⊢
              exact ih _ _ hi
        · rw [if_neg h] at hi ⊢
          exact ih _ _ hi
def x216 (p : Nat → Nat) (v1 : Int32) (v2 : Int32) (v3 : Int32) (J : Nat → Nat → Int32) : Int32 := (x216_6 p v1 v2 v3 J ((J (p 4) 2).toNatClampNeg) (Int32.ofInt (-1)) (Int32.ofInt 0))
theorem xt216 {X : nt_X} {d : Nat} {M : nt_M} {o : Option Value × nt_M} {p : Nat → Nat} {v1 : Int32} {v2 : Int32} {v3 : Int32} {J : Nat → Nat → Int32} (hp : xs_P M p) (k : nt_ev X d 216 [.ref (p 0), .int v1, .int v2, .int v3] (me_w M J) o) : o = (some (.int (x216 p v1 v2 v3 J)), me_w M J) := by
  have k : nt_rn X d 216 (0, [(0, .ref (p 0)), (1, .int v1), (2, .int v2), (3, .int v3)], [], me_w M J) o := k
  have k := ly_revb 4 (c' := (6, [(5, .int (Int32.ofInt 0)), (4, .int (Int32.ofInt (-1))), (0, .ref (p 0)), (1, .int v1), (2, .int v2), (3, .int v3)], [], me_w M J)) rfl k
  have k := nt_rn_w (a := [(5, .int (Int32.ofInt 0)), (4, .int (Int32.ofInt (-1))), (0, .ref (p 0)), (1, .int v1), (2, .int v2), (3, .int v3)]) (b := [(0, .ref (p 0)), (1, .int v1), (2, .int v2), (3, .int v3), (4, .int (Int32.ofInt (-1))), (5, .int (Int32.ofInt 0))]) ⟨rfl, rfl, rfl, rfl, rfl, rfl, trivial⟩ rfl k
  have k := xt216_6 hp  ((J (p 4) 2).toNatClampNeg) (Int32.ofInt (-1)) (Int32.ofInt 0) (lx_beg (by decide)) k
  rw [k, x216]
end
section
/-! most, dealt, willDo, both sides -/
theorem z_has {a b : Int32} : x14 a b = x209 a b := by
  have h := sx_and_ok (x := a >>> (b &&& 31)) (y := Int32.ofInt 1) (by decide)
  have e : (Int32.ofInt 1).toInt = 1 := by decide
  unfold x14 x209
  by_cases c : (a >>> (b &&& 31)) &&& Int32.ofInt 1 = 0
  · rw [if_pos c, c, if_neg (show ¬ (0 : Int32) = Int32.ofInt 1 from by decide)]
  · have n : ((a >>> (b &&& 31)) &&& Int32.ofInt 1).toInt ≠ 0 := fun x => c (Int32.toInt_inj.mp (x.trans (by decide)))
    have d : (a >>> (b &&& 31)) &&& Int32.ofInt 1 = Int32.ofInt 1 := Int32.toInt_inj.mp (by omega)
    rw [if_neg c, if_pos d]
theorem z_h01 {a b : Int32} : x209 a b = Int32.ofInt 0 ∨ x209 a b = Int32.ofInt 1 := by
  unfold x209
  split
  · exact Or.inr rfl
  · exact Or.inl rfl
/-- the counts that look makes -/
theorem zfK_l {p : Nat → Nat} {v : Int32} : ∀ (c : Nat) (i : Int32) (J : Nat → Nat → Int32), 0 ≤ i.toInt → 4 - i.toInt ≤ c → (∀ j, i.toNatClampNeg ≤ j → j < 4 → x238K_5 p v (Int32.ofNat 4) c i J (p 29) j = v) ∧ (∀ j, j < i.toNatClampNeg → x238K_5 p v (Int32.ofNat 4) c i J (p 29) j = J (p 29) j) := by
  intro c
  induction c with
  | zero =>
    intro i J h hc
    have t := z_tn h
    exact ⟨fun j a b => by omega, fun j a => rfl⟩
  | succ c ih =>
    intro i J h hc
    have t := z_tn h
    rw [x238K_5]
    by_cases h1 : Int32.ofNat 4 ≤ i
    · rw [if_pos h1]
      have h1 := z_ge.mp h1
      rw [show (Int32.ofNat 4).toInt = 4 from by decide] at h1
      exact ⟨fun j a b => by omega, fun j a => rfl⟩
    · rw [if_neg h1]
      have l := z_lt h1
      rw [show (Int32.ofNat 4).toInt = 4 from by decide] at l
      have hc' : (Int32.ofNat 4).toInt - i.toInt ≤ (c + 1 : Nat) := by
        rw [show (Int32.ofNat 4).toInt = 4 from by decide]
        exact hc
      have d := lx_dec h1 hc'
      rw [show (Int32.ofNat 4).toInt = 4 from by decide] at d
      have z := ih (i + Int32.ofInt 1) (nt_u J (p 29) i.toNatClampNeg v) (xi_nn h1 h) d
      have i1 : (i + Int32.ofInt 1).toNatClampNeg = i.toNatClampNeg + 1 := by
        rw [zn_t, zn_t, lx_inc h1]
        omega
      rw [i1] at z
      refine ⟨fun j a b => ?_, fun j a => ?_⟩
      · by_cases e : j = i.toNatClampNeg
        · rw [e, z.2 _ (by omega), me_us]
        · exact z.1 j (by omega) b
      · rw [z.2 j (by omega), me_uk (by omega)]
theorem zfK {p : Nat → Nat} {v : Int32} {J : Nat → Nat → Int32} {j : Nat} (hj : j < 4) : x238K p v J (p 29) j = v := (zfK_l (v := v) ((Int32.ofNat 4).toNatClampNeg) (Int32.ofInt 0) J (by decide) (by decide)).1 j (Nat.zero_le _) hj
theorem zfS_l {p : Nat → Nat} {v : Int32} : ∀ (c : Nat) (i : Int32) (J : Nat → Nat → Int32), 0 ≤ i.toInt → 4 - i.toInt ≤ c → (∀ j, i.toNatClampNeg ≤ j → j < 4 → x238S_5 p v (Int32.ofNat 4) c i J (p 30) j = v) ∧ (∀ j, j < i.toNatClampNeg → x238S_5 p v (Int32.ofNat 4) c i J (p 30) j = J (p 30) j) := by
  intro c
  induction c with
  | zero =>
    intro i J h hc
    have t := z_tn h
    exact ⟨fun j a b => by omega, fun j a => rfl⟩
  | succ c ih =>
    intro i J h hc
    have t := z_tn h
    rw [x238S_5]
    by_cases h1 : Int32.ofNat 4 ≤ i
    · rw [if_pos h1]
      have h1 := z_ge.mp h1
      rw [show (Int32.ofNat 4).toInt = 4 from by decide] at h1
      exact ⟨fun j a b => by omega, fun j a => rfl⟩
    · rw [if_neg h1]
      have l := z_lt h1
      rw [show (Int32.ofNat 4).toInt = 4 from by decide] at l
      have hc' : (Int32.ofNat 4).toInt - i.toInt ≤ (c + 1 : Nat) := by
        rw [show (Int32.ofNat 4).toInt = 4 from by decide]
        exact hc
      have d := lx_dec h1 hc'
      rw [show (Int32.ofNat 4).toInt = 4 from by decide] at d
      have z := ih (i + Int32.ofInt 1) (nt_u J (p 30) i.toNatClampNeg v) (xi_nn h1 h) d
      have i1 : (i + Int32.ofInt 1).toNatClampNeg = i.toNatClampNeg + 1 := by
        rw [zn_t, zn_t, lx_inc h1]
        omega
      rw [i1] at z
      refine ⟨fun j a b => ?_, fun j a => ?_⟩
      · by_cases e : j = i.toNatClampNeg
        · rw [e, z.2 _ (by omega), me_us]
        · exact z.1 j (by omega) b
      · rw [z.2 j (by omega), me_uk (by omega)]
theorem zfS {p : Nat → Nat} {v : Int32} {J : Nat → Nat → Int32} {j : Nat} (hj : j < 4) : x238S p v J (p 30) j = v := (zfS_l (v := v) ((Int32.ofNat 4).toNatClampNeg) (Int32.ofInt 0) J (by decide) (by decide)).1 j (Nat.zero_le _) hj
theorem zlk_l {p : Nat → Nat} {Jr : Nat → Nat → Int32} {b : Int} {k : Nat} (hp : zpd p) (hW : zW (Jr (p 4)) b) (hk : k < 4) : ∀ (c : Nat) (i : Int32) (J : Nat → Nat → Int32), 0 ≤ i.toInt → zR (fun i => p (31 + i)) J (Jr (p 4)) → x12F_31 p c i J (p 29) k = x210_4 p (Int32.ofInt (k : Int)) Jr c (J (p 29) k) i ∧ ∀ w, x12F_31 p c i J (p 30) k = x225_55 p w (Int32.ofInt (k : Int)) Jr c (J (p 30) k) i := by
  have n3 : p 29 ≠ p 30 := hp 29 30 (by omega) (by omega) (by omega)
  have o10 : ¬ Int32.ofInt 1 = 0 := by decide
  have o00 : Int32.ofInt 0 = 0 := rfl
  intro c
  induction c with
  | zero => intro i J h hR; exact ⟨rfl, fun _ => rfl⟩
  | succ c ih =>
    intro i J h hR
    have e2 : J (p 32) 2 = Jr (p 4) 2 := zR_n hR (i := 2) (by omega)
    by_cases h1 : Jr (p 4) 2 ≤ i
    · refine ⟨?_, fun w => ?_⟩
      · rw [x12F_31, x210_4, e2, if_pos h1, if_pos h1]
      · rw [x12F_31, x225_55, e2, if_pos h1, if_pos h1]
    · obtain ⟨hn, hi, c0, c1, c2, c3, c4, r0, r1, r2, r3, r4⟩ := zP hR hW.w h h1
      have c0 : J (p 34) i.toNatClampNeg = Jr (p 4) (52 + 5 * i.toNatClampNeg + 0) := c0
      have c1 : J (p 44) i.toNatClampNeg = Jr (p 4) (52 + 5 * i.toNatClampNeg + 1) := c1
      have c4 : J (p 46) i.toNatClampNeg = Jr (p 4) (52 + 5 * i.toNatClampNeg + 4) := c4
      have kn := hW.a.kn _ hn
      obtain ⟨K, eK⟩ : ∃ K, Jr (p 4) (52 + 5 * i.toNatClampNeg + 0) = K := ⟨_, rfl⟩
      obtain ⟨rt, er⟩ : ∃ rt, Jr (p 4) (52 + 5 * i.toNatClampNeg + 1) = rt := ⟨_, rfl⟩
      obtain ⟨lo, el⟩ : ∃ lo, Jr (p 4) (52 + 5 * i.toNatClampNeg + 4) = lo := ⟨_, rfl⟩
      rw [eK] at c0 r0 kn
      rw [er] at c1 r1
      rw [el] at c4 r4
      have ek : K = Int32.ofInt (k : Int) ↔ K.toNatClampNeg = k := by
        rw [zi_n (by omega : k < 1000), zn_t]
        omega
      have nx := zi_i h1 h
      have s172 : ∀ y, x172 p i Jr = y ↔ (if rt ≤ 0 then Int32.ofInt 0 else if lo = 0 then Int32.ofInt 1 else Int32.ofInt 0) = y := fun y => by
        unfold x172
        rw [r1, r4]
      by_cases l : lo = 0
      · have R' : ∀ x y : Int32, zR (fun i => p (31 + i)) (nt_u (nt_u J (p 29) K.toNatClampNeg x) (p 30) K.toNatClampNeg y) (Jr (p 4)) := fun x y => zR_aj (fun j hj => (me_uo (hp (31 + j) 30 (by omega) (by omega) (by omega))).trans (me_uo (hp (31 + j) 29 (by omega) (by omega) (by omega)))) hR
        by_cases r : rt ≤ 0
        · obtain ⟨z1, z2⟩ := ih (i + Int32.ofInt 1) _ nx (R' (J (p 29) K.toNatClampNeg + Int32.ofInt 1) (J (p 30) K.toNatClampNeg + Int32.ofInt 0))
          refine ⟨?_, fun w => ?_⟩
          · rw [x12F_31, x210_4, e2, if_neg h1, if_neg h1, c4, if_pos l, c1, if_pos r, c0, z1, r0, r4, me_uo n3]
            by_cases e : K = Int32.ofInt (k : Int)
            · rw [if_pos e, if_pos l, ek.mp e, me_us]
            · rw [if_neg e, me_uk (fun x => e (ek.mpr x.symm)), z_add0]
          · have s : x172 p i Jr = 0 := (s172 _).mpr (by rw [if_pos r, o00])
            rw [x12F_31, x225_55, e2, if_neg h1, if_neg h1, c4, if_pos l, c1, if_pos r, c0, z2 w, if_pos s, z_add0, z_add0]
            by_cases e : K.toNatClampNeg = k
            · rw [e, me_us]
            · rw [me_uk (fun x => e x.symm), me_uo (Ne.symm n3)]
        · obtain ⟨z1, z2⟩ := ih (i + Int32.ofInt 1) _ nx (R' (J (p 29) K.toNatClampNeg + Int32.ofInt 1) (J (p 30) K.toNatClampNeg + Int32.ofInt 1))
          refine ⟨?_, fun w => ?_⟩
          · rw [x12F_31, x210_4, e2, if_neg h1, if_neg h1, c4, if_pos l, c1, if_neg r, c0, z1, r0, r4, me_uo n3]
            by_cases e : K = Int32.ofInt (k : Int)
            · rw [if_pos e, if_pos l, ek.mp e, me_us]
            · rw [if_neg e, me_uk (fun x => e (ek.mpr x.symm)), z_add0]
          · have s : x172 p i Jr = Int32.ofInt 1 := (s172 _).mpr (by rw [if_neg r, if_pos l])
            rw [x12F_31, x225_55, e2, if_neg h1, if_neg h1, c4, if_pos l, c1, if_neg r, c0, z2 w, if_neg (show ¬ x172 p i Jr = 0 from by rw [s]; exact o10), r0]
            by_cases e : K = Int32.ofInt (k : Int)
            · rw [if_pos e, ek.mp e, me_us]
            · rw [if_neg e, me_uk (fun x => e (ek.mpr x.symm)), me_uo (Ne.symm n3), z_add0]
      · obtain ⟨z1, z2⟩ := ih (i + Int32.ofInt 1) J nx hR
        refine ⟨?_, fun w => ?_⟩
        · rw [x12F_31, x210_4, e2, if_neg h1, if_neg h1, c4, if_neg l, z1, r0, r4]
          by_cases e : K = Int32.ofInt (k : Int)
          · rw [if_pos e, if_neg l, z_add0]
          · rw [if_neg e, z_add0]
        · have s : x172 p i Jr = 0 := (s172 _).mpr (by rw [if_neg l, o00]; split <;> rfl)
          rw [x12F_31, x225_55, e2, if_neg h1, if_neg h1, c4, if_neg l, z2 w, if_pos s, z_add0]
theorem zlk_R {p : Nat → Nat} {Jc : Nat → Nat → Int32} {e : Nat → Int32} (hp : zpd p) (hR : zR (fun i => p (31 + i)) Jc e) : zR (fun i => p (31 + i)) (x12F p Jc) e := zR_aj (fun j hj => x12F_frJ (hp (31 + j) 29 (by omega) (by omega) (by omega)) (hp (31 + j) 30 (by omega) (by omega) (by omega))) hR
theorem zlk {p : Nat → Nat} {Jc Jr : Nat → Nat → Int32} {b : Int} {k : Nat} (hp : zpd p) (hR : zR (fun i => p (31 + i)) Jc (Jr (p 4))) (hW : zW (Jr (p 4)) b) (hk : k < 4) : x12F p Jc (p 29) k = x210 p (Int32.ofInt (k : Int)) Jr ∧ ∀ w, x12F p Jc (p 30) k = x225_55 p w (Int32.ofInt (k : Int)) Jr ((Jr (p 4) 2).toNatClampNeg) (Int32.ofInt 0) (Int32.ofInt 0) := by
  have n3 : p 29 ≠ p 30 := hp 29 30 (by omega) (by omega) (by omega)
  have R0 : zR (fun i => p (31 + i)) (x238S p (Int32.ofInt 0) (x238K p (Int32.ofInt 0) Jc)) (Jr (p 4)) := zR_aj (fun j hj => (x238S_frJ (hp (31 + j) 30 (by omega) (by omega) (by omega))).trans (x238K_frJ (hp (31 + j) 29 (by omega) (by omega) (by omega)))) hR
  have e2 : x238S p (Int32.ofInt 0) (x238K p (Int32.ofInt 0) Jc) (p 32) 2 = Jr (p 4) 2 := zR_n R0 (i := 2) (by omega)
  have z := zlk_l hp hW hk ((Jr (p 4) 2).toNatClampNeg) (Int32.ofInt 0) _ (by decide) R0
  have k29 : x238S p (Int32.ofInt 0) (x238K p (Int32.ofInt 0) Jc) (p 29) k = Int32.ofInt 0 := (congrFun (x238S_frJ n3) k).trans (zfK hk)
  rw [k29, zfS hk] at z
  unfold x12F x210
  rw [e2]
  exact z
/-- pay -/
theorem zq_20l {p : Nat → Nat} {J Jr : Nat → Nat → Int32} {s : Int32} (hR : zR (fun i => p (31 + i)) J (Jr (p 4))) (hW : xr_W (Jr (p 4))) : ∀ (c : Nat) (a i : Int32), 0 ≤ i.toInt → x20_4 p s J c a i = x213_4 p s Jr c a i := by
  intro c
  induction c with
  | zero => intro a i h; rfl
  | succ c ih =>
    intro a i h
    rw [x20_4, x213_4, show J (p 32) 3 = Jr (p 4) 3 from zR_n hR (i := 3) (by omega)]
    by_cases h1 : Jr (p 4) 3 ≤ i
    · rw [if_pos h1, if_pos h1]
    · obtain ⟨hn, hi, v0, v1, v2, v3, v4, u0, u1, u2, u3, u4⟩ := zV hR hW h h1
      have v3 : J (p 40) i.toNatClampNeg = Jr (p 4) (172 + 5 * i.toNatClampNeg + 3) := v3
      rw [if_neg h1, if_neg h1, z_has, v3, u3, ih _ _ (zi_i h1 h), ih _ _ (zi_i h1 h), z_add0]
theorem zq_20 {p : Nat → Nat} {J Jr : Nat → Nat → Int32} {s : Int32} (hR : zR (fun i => p (31 + i)) J (Jr (p 4))) (hW : xr_W (Jr (p 4))) : x20 p s J = x213 p s Jr := by
  unfold x20 x213
  rw [show J (p 32) 3 = Jr (p 4) 3 from zR_n hR (i := 3) (by omega)]
  exact zq_20l hR hW _ _ _ (by decide)
theorem zq_25l {p : Nat → Nat} {J Jr : Nat → Nat → Int32} {s : Int32} (hR : zR (fun i => p (31 + i)) J (Jr (p 4))) (hW : xr_W (Jr (p 4))) : ∀ (c : Nat) (a i : Int32), 0 ≤ i.toInt → x25_4 p s J c a i = x224_4 p s Jr c a i := by
  intro c
  induction c with
  | zero => intro a i h; rfl
  | succ c ih =>
    intro a i h
    rw [x25_4, x224_4, show J (p 32) 3 = Jr (p 4) 3 from zR_n hR (i := 3) (by omega), show J (p 31) 2 = Jr (p 4) 4 from zR_4 hR]
    by_cases h1 : Jr (p 4) 3 ≤ i
    · rw [if_pos h1, if_pos h1]
    · obtain ⟨hn, hi, v0, v1, v2, v3, v4, u0, u1, u2, u3, u4⟩ := zV hR hW h h1
      have v0 : J (p 37) i.toNatClampNeg = Jr (p 4) (172 + 5 * i.toNatClampNeg + 0) := v0
      have v1 : J (p 38) i.toNatClampNeg = Jr (p 4) (172 + 5 * i.toNatClampNeg + 1) := v1
      have v3 : J (p 40) i.toNatClampNeg = Jr (p 4) (172 + 5 * i.toNatClampNeg + 3) := v3
      rw [if_neg h1, if_neg h1, z_has, v0, v1, v3, u0, u1, u3, ih _ _ (zi_i h1 h), ih _ _ (zi_i h1 h), z_add0]
theorem zq_25 {p : Nat → Nat} {J Jr : Nat → Nat → Int32} {s : Int32} (hR : zR (fun i => p (31 + i)) J (Jr (p 4))) (hW : xr_W (Jr (p 4))) : x25 p s J = x224 p s Jr := by
  unfold x25 x224
  rw [show J (p 32) 3 = Jr (p 4) 3 from zR_n hR (i := 3) (by omega)]
  exact zq_25l hR hW _ _ _ (by decide)
end
section
/-! sets of voyages -/
theorem zt_or : ∀ n, n < 256 → ∀ i, i < 8 → (nI n ||| (Int32.ofInt 1 <<< (nI i &&& 31)) = nI (n ||| (1 <<< i)) ∧ n ||| (1 <<< i) < 256) := by decide +kernel
theorem zt_bit : ∀ n, n < 256 → ∀ i, i < 8 → ∀ j, j < 8 → x209 (nI (n ||| (1 <<< i))) (nI j) = (if j = i then Int32.ofInt 1 else x209 (nI n) (nI j)) := by decide +kernel
theorem zt_0 : ∀ j, j < 8 → x209 (nI 0) (nI j) = Int32.ofInt 0 := by decide +kernel
theorem zt_sh : ∀ m, m < 9 → (1 ≤ (Int32.ofInt 1 <<< (nI m &&& 31)).toInt ∧ (Int32.ofInt 1 <<< (nI m &&& 31)).toInt ≤ 256) ∧ (m < 7 → (Int32.ofInt 1 <<< (nI m &&& 31)).toInt ≤ 64) := by decide +kernel
theorem z_nI {x : Int32} (h0 : 0 ≤ x.toInt) (h1 : x.toInt < 100000) : x = nI x.toNatClampNeg := by
  have t := z_tn h0
  exact Int32.toInt_inj.mp (by rw [nI_toInt (by omega)]; exact t)
theorem z_nt {n : Nat} (h : n < 100000) : (nI n).toNatClampNeg = n := nI_clamp (by omega)
/-- those of a set that are at sea on a day -/
theorem zuw_l {p : Nat → Nat} {J Jr : Nat → Nat → Int32} {s d : Int32} (hR : zR (fun i => p (31 + i)) J (Jr (p 4))) (hW : xr_W (Jr (p 4))) : ∀ (c : Nat) (i : Int32) (n : Nat), 0 ≤ i.toInt → (Jr (p 4) 3).toInt - i.toInt ≤ c → n < 256 → ∃ m, m < 256 ∧ x16_5 p s d J c (nI n) i = nI m ∧ ∀ j, j < 8 → x209 (nI m) (nI j) = (if i.toNatClampNeg ≤ j ∧ j < zn (Jr (p 4)) 3 ∧ ¬ x208 p s (nI j) d Jr = 0 then Int32.ofInt 1 else x209 (nI n) (nI j)) := by
  have bb := zn_b hW
  intro c
  induction c with
  | zero =>
    intro i n h hc hn
    have t := z_tn h
    exact ⟨n, hn, rfl, fun j hj => by rw [if_neg (fun x => by omega)]⟩
  | succ c ih =>
    intro i n h hc hn
    have t := z_tn h
    rw [x16_5, show J (p 32) 3 = Jr (p 4) 3 from zR_n hR (i := 3) (by omega)]
    by_cases h1 : Jr (p 4) 3 ≤ i
    · rw [if_pos h1]
      have h1 := z_ge.mp h1
      exact ⟨n, hn, rfl, fun j hj => by rw [if_neg (fun x => by omega)]⟩
    · obtain ⟨hv, hi, v0, v1, v2, v3, v4, u0, u1, u2, u3, u4⟩ := zV hR hW h h1
      have v1 : J (p 38) i.toNatClampNeg = Jr (p 4) (172 + 5 * i.toNatClampNeg + 1) := v1
      have v2 : J (p 39) i.toNatClampNeg = Jr (p 4) (172 + 5 * i.toNatClampNeg + 2) := v2
      have i1 : (i + Int32.ofInt 1).toNatClampNeg = i.toNatClampNeg + 1 := zx_i h1 h
      have ei : nI i.toNatClampNeg = i := (z_nI h (by omega)).symm
      have s208 : ∀ y, x208 p s (nI i.toNatClampNeg) d Jr = y ↔ (if x209 s i = 0 then Int32.ofInt 0 else if d < Jr (p 4) (172 + 5 * i.toNatClampNeg + 1) then Int32.ofInt 0 else if Jr (p 4) (172 + 5 * i.toNatClampNeg + 2) ≤ d then Int32.ofInt 0 else Int32.ofInt 1) = y := fun y => by
        rw [ei]
        unfold x208
        rw [u1, u2]
      have no : x208 p s (nI i.toNatClampNeg) d Jr = 0 → ∃ m, m < 256 ∧ x16_5 p s d J c (nI n) (i + Int32.ofInt 1) = nI m ∧ ∀ j, j < 8 → x209 (nI m) (nI j) = (if i.toNatClampNeg ≤ j ∧ j < zn (Jr (p 4)) 3 ∧ ¬ x208 p s (nI j) d Jr = 0 then Int32.ofInt 1 else x209 (nI n) (nI j)) := fun z => by
        obtain ⟨m, m1, m2, m3⟩ := ih (i + Int32.ofInt 1) n (zi_i h1 h) (lx_dec h1 hc) hn
        refine ⟨m, m1, m2, fun j hj => ?_⟩
        rw [m3 j hj, i1]
        by_cases e : j = i.toNatClampNeg
        · rw [if_neg (fun x => by omega), if_neg (fun x => by rw [e] at x; exact x.2.2 z)]
        · by_cases q : i.toNatClampNeg ≤ j ∧ j < zn (Jr (p 4)) 3 ∧ ¬ x208 p s (nI j) d Jr = 0
          · rw [if_pos q, if_pos ⟨by omega, q.2⟩]
          · rw [if_neg q, if_neg (fun x => q ⟨by omega, x.2⟩)]
      rw [if_neg h1, z_has, v1, v2]
      by_cases a : x209 s i = 0
      · rw [if_pos a]
        exact no ((s208 _).mpr (by rw [if_pos a]; rfl))
      · rw [if_neg a]
        by_cases b : d < Jr (p 4) (172 + 5 * i.toNatClampNeg + 1)
        · rw [if_pos b]
          exact no ((s208 _).mpr (by rw [if_neg a, if_pos b]; rfl))
        · rw [if_neg b]
          by_cases e : Jr (p 4) (172 + 5 * i.toNatClampNeg + 2) ≤ d
          · rw [if_pos e]
            exact no ((s208 _).mpr (by rw [if_neg a, if_neg b, if_pos e]; rfl))
          · have one : ¬ x208 p s (nI i.toNatClampNeg) d Jr = 0 := by
              rw [(s208 (Int32.ofInt 1)).mpr (by rw [if_neg a, if_neg b, if_neg e])]
              decide
            have l8 : i.toNatClampNeg < 8 := by omega
            obtain ⟨o1, o2⟩ := zt_or n hn i.toNatClampNeg l8
            rw [ei] at o1
            rw [if_neg e, o1]
            obtain ⟨m, m1, m2, m3⟩ := ih (i + Int32.ofInt 1) (n ||| (1 <<< i.toNatClampNeg)) (zi_i h1 h) (lx_dec h1 hc) o2
            refine ⟨m, m1, m2, fun j hj => ?_⟩
            rw [m3 j hj, i1, zt_bit n hn i.toNatClampNeg l8 j hj]
            by_cases ej : j = i.toNatClampNeg
            · rw [if_neg (fun x => by omega), if_pos ej, if_pos ⟨by omega, by omega, by rw [ej]; exact one⟩]
            · rw [if_neg ej]
              by_cases q : i.toNatClampNeg ≤ j ∧ j < zn (Jr (p 4)) 3 ∧ ¬ x208 p s (nI j) d Jr = 0
              · rw [if_pos q, if_pos ⟨by omega, q.2⟩]
              · rw [if_neg q, if_neg (fun x => q ⟨by omega, x.2⟩)]
theorem z_208 {p : Nat → Nat} {s v d : Int32} {J : Nat → Nat → Int32} : x208 p s v d J = Int32.ofInt 0 ∨ x208 p s v d J = Int32.ofInt 1 := by
  unfold x208
  by_cases a : x209 s v = 0
  · rw [if_pos a]
    exact Or.inl rfl
  · rw [if_neg a]
    by_cases b : d < x180 p v (Int32.ofInt 1) J
    · rw [if_pos b]
      exact Or.inl rfl
    · rw [if_neg b]
      by_cases c : x180 p v (Int32.ofInt 2) J ≤ d
      · rw [if_pos c]
        exact Or.inl rfl
      · rw [if_neg c]
        exact Or.inr rfl
theorem zuw {p : Nat → Nat} {J Jr : Nat → Nat → Int32} {s d : Int32} (hR : zR (fun i => p (31 + i)) J (Jr (p 4))) (hW : xr_W (Jr (p 4))) : ∀ i : Int32, 0 ≤ i.toInt → ¬ Jr (p 4) 3 ≤ i → x209 (x16 p s d J) i = x208 p s i d Jr := by
  intro i h h1
  have bb := zn_b hW
  have lt := z_lt h1
  have t := z_tn h
  obtain ⟨m, m1, m2, m3⟩ := zuw_l (s := s) (d := d) hR hW ((Jr (p 4) 3).toNatClampNeg) (Int32.ofInt 0) 0 (by decide) (by rw [zn_t, show (Int32.ofInt 0).toInt = 0 from by decide]; omega) (by omega)
  have ei : nI i.toNatClampNeg = i := (z_nI h (by omega)).symm
  have q := m3 i.toNatClampNeg (by omega)
  unfold x16
  rw [show J (p 32) 3 = Jr (p 4) 3 from zR_n hR (i := 3) (by omega)]
  rw [zt_0 _ (by omega), ei] at q
  rw [show Int32.ofInt 0 = nI 0 from rfl] at m2 ⊢
  rw [m2, q]
  by_cases a : x208 p s i d Jr = 0
  · rw [if_neg (fun x => x.2.2 a), a]
    rfl
  · rw [if_pos ⟨Nat.zero_le _, by omega, a⟩]
    rcases z_208 (p := p) (s := s) (v := i) (d := d) (J := Jr) with x | x
    · exact absurd x a
    · exact x.symm
/-- what must be, of a kind -/
theorem zq_17l {p : Nat → Nat} {J Jr : Nat → Nat → Int32} {s d u k : Int32} {b : Int} (hR : zR (fun i => p (31 + i)) J (Jr (p 4))) (hW : zW (Jr (p 4)) b) (hk : 0 ≤ k.toInt ∧ k.toInt < (Jr (p 4) 0).toInt) (hu : ∀ i : Int32, 0 ≤ i.toInt → ¬ Jr (p 4) 3 ≤ i → x209 u i = x208 p s i d Jr) : ∀ (c : Nat) (a i : Int32), 0 ≤ i.toInt → x17_5 p u k J c a i = x207_18 p s d k Jr c a i := by
  intro c
  induction c with
  | zero => intro a i h; rfl
  | succ c ih =>
    intro a i h
    rw [x17_5, x207_18, show J (p 32) 3 = Jr (p 4) 3 from zR_n hR (i := 3) (by omega)]
    by_cases h1 : Jr (p 4) 3 ≤ i
    · rw [if_pos h1, if_pos h1]
    · obtain ⟨hn, hi, v0, v1, v2, v3, v4, u0, u1, u2, u3, u4⟩ := zV hR hW.w h h1
      have v0 : J (p 37) i.toNatClampNeg = Jr (p 4) (172 + 5 * i.toNatClampNeg + 0) := v0
      have vo := hW.a.vo _ hn
      have e := zq_87 hR hW.w ⟨vo.1, vo.2.1⟩ hk
      rw [if_neg h1, if_neg h1, z_has, hu i h h1, v0, u0, e.1, e.2, ih _ _ (zi_i h1 h), ih _ _ (zi_i h1 h), z_add0]
theorem zq_17 {p : Nat → Nat} {J Jr : Nat → Nat → Int32} {s d k : Int32} {b : Int} (hR : zR (fun i => p (31 + i)) J (Jr (p 4))) (hW : zW (Jr (p 4)) b) (hk : 0 ≤ k.toInt ∧ k.toInt < (Jr (p 4) 0).toInt) : x17 p (x16 p s d J) k J = x207_18 p s d k Jr ((Jr (p 4) 3).toNatClampNeg) (Int32.ofInt 0) (Int32.ofInt 0) := by
  unfold x17
  rw [show J (p 32) 3 = Jr (p 4) 3 from zR_n hR (i := 3) (by omega)]
  exact zq_17l hR hW hk (zuw hR hW.w) _ _ _ (by decide)
/-- a ship on two -/
theorem zq_18l {p : Nat → Nat} {J Jr : Nat → Nat → Int32} {s d u : Int32} (hR : zR (fun i => p (31 + i)) J (Jr (p 4))) (hW : xr_W (Jr (p 4))) (hu : ∀ i : Int32, 0 ≤ i.toInt → ¬ Jr (p 4) 3 ≤ i → x209 u i = x208 p s i d Jr) : ∀ (c : Nat) (a i : Int32), 0 ≤ i.toInt → x207_90 p s d Jr c a i = (if x18_4 p u J c a i = 0 then Int32.ofInt (-1) else Int32.ofInt 4) := by
  have o0 : Int32.ofInt 0 = 0 := rfl
  intro c
  induction c with
  | zero => intro a i h; exact (if_pos rfl).symm
  | succ c ih =>
    intro a i h
    rw [x18_4, x207_90, show J (p 32) 3 = Jr (p 4) 3 from zR_n hR (i := 3) (by omega)]
    by_cases h1 : Jr (p 4) 3 ≤ i
    · rw [if_pos h1, if_pos h1, if_pos o0]
    · obtain ⟨hn, hi, v0, v1, v2, v3, v4, u0, u1, u2, u3, u4⟩ := zV hR hW h h1
      have v0 : J (p 37) i.toNatClampNeg = Jr (p 4) (172 + 5 * i.toNatClampNeg + 0) := v0
      rw [if_neg h1, if_neg h1, z_has, hu i h h1, z_has, v0, u0]
      by_cases e : x208 p s i d Jr = 0
      · rw [if_pos e, if_pos e]
        exact ih _ _ (zi_i h1 h)
      · rw [if_neg e, if_neg e]
        by_cases g : x209 a (Jr (p 4) (172 + 5 * i.toNatClampNeg + 0)) = 0
        · rw [if_pos g, if_pos g]
          exact ih _ _ (zi_i h1 h)
        · rw [if_neg g, if_neg g, if_neg (show ¬ Int32.ofInt 1 = 0 from by decide)]
theorem zq_15l {p : Nat → Nat} {J Jr : Nat → Nat → Int32} {s d : Int32} {b : Int} (hR : zR (fun i => p (31 + i)) J (Jr (p 4))) (hW : zW (Jr (p 4)) b) (hk : ∀ k, k < 4 → J (p 29) k = x210 p (Int32.ofInt (k : Int)) Jr) : ∀ (c : Nat) (k : Int32), 0 ≤ k.toInt → x15_10 p (x16 p s d J) J c k = x207_2 p s d Jr c k := by
  have bb := zn_b hW.w
  have two : (if x18 p (x16 p s d J) J = 0 then Int32.ofInt (-1) else Int32.ofInt 4) = x207_90 p s d Jr ((Jr (p 4) 3).toNatClampNeg) (Int32.ofInt 0) (Int32.ofInt 0) := by
    rw [zq_18l hR hW.w (zuw hR hW.w) _ _ _ (by decide)]
    unfold x18
    rw [show J (p 32) 3 = Jr (p 4) 3 from zR_n hR (i := 3) (by omega)]
  intro c
  induction c with
  | zero => intro k h; exact two
  | succ c ih =>
    intro k h
    rw [x15_10, x207_2, show J (p 32) 0 = Jr (p 4) 0 from zR_n hR (i := 0) (by omega)]
    by_cases h1 : Jr (p 4) 0 ≤ k
    · rw [if_pos h1, if_pos h1]
      exact two
    · have lt := z_lt h1
      have t := z_tn h
      have ek : Int32.ofInt ((k.toNatClampNeg : Nat) : Int) = k := z_oi h (by omega)
      rw [if_neg h1, if_neg h1, zq_17 hR hW ⟨h, lt⟩, hk k.toNatClampNeg (by omega), ek, ih _ (zi_i h1 h)]
theorem zq_15 {p : Nat → Nat} {J Jr : Nat → Nat → Int32} {s d : Int32} {b : Int} (hR : zR (fun i => p (31 + i)) J (Jr (p 4))) (hW : zW (Jr (p 4)) b) (hk : ∀ k, k < 4 → J (p 29) k = x210 p (Int32.ofInt (k : Int)) Jr) : x15 p s d J = x207 p s d Jr := by
  unfold x15 x207
  rw [show J (p 32) 0 = Jr (p 4) 0 from zR_n hR (i := 0) (by omega)]
  exact zq_15l hR hW hk _ _ (by decide)
/-! which day fails -/
theorem z207 {p : Nat → Nat} {s d : Int32} {J : Nat → Nat → Int32} {b : Int} (hW : zW (J (p 4)) b) : (x207 p s d J < 0 ↔ x207 p s d J = Int32.ofInt (-1)) := by
  have m1 : (Int32.ofInt (-1)).toInt = -1 := xi_m1
  have key : x207 p s d J = Int32.ofInt (-1) ∨ 0 ≤ (x207 p s d J).toInt := by
    unfold x207
    have t : ∀ (c : Nat) (a i : Int32), x207_90 p s d J c a i = Int32.ofInt (-1) ∨ 0 ≤ (x207_90 p s d J c a i).toInt := by
      intro c a i
      refine x207_90_rule (I := fun _ _ _ => True) (Q := fun r => r = Int32.ofInt (-1) ∨ 0 ≤ r.toInt) ?_ ?_ c a i trivial
      · intro v3 v4 _
        exact Or.inl rfl
      · intro c v3 v4 _
        exact z_ite (Or.inl rfl) (z_ite trivial (z_ite trivial (Or.inr (by decide))))
    refine x207_2_rule (I := fun _ v3 => 0 ≤ v3.toInt) (Q := fun r => r = Int32.ofInt (-1) ∨ 0 ≤ r.toInt) ?_ ?_ _ _ (by decide)
    · intro v3 _
      exact t _ _ _
    · intro c v3 h
      by_cases h1 : J (p 4) 0 ≤ v3
      · rw [if_pos h1]
        exact t _ _ _
      · rw [if_neg h1]
        exact z_ite (xi_nn h1 h) (Or.inr h)
  constructor
  · intro h
    rcases key with e | e
    · exact e
    · have := z_le0.mp h
      omega
  · intro h
    rw [h]
    decide
/-- the first of the class, -1 where no voyage's first day fails -/
theorem zq_13l {p : Nat → Nat} {J Jr : Nat → Nat → Int32} {s : Int32} {b : Int} (hR : zR (fun i => p (31 + i)) J (Jr (p 4))) (hW : zW (Jr (p 4)) b) : ∀ (c : Nat) (a i : Int32), 0 ≤ i.toInt → (Jr (p 4) 3).toInt - i.toInt ≤ c → (a = Int32.ofInt (-1) ∨ 0 ≤ a.toInt) → (x13_4 p s J c a i = Int32.ofInt (-1) ↔ a = Int32.ofInt (-1) ∧ ∀ v, i.toNatClampNeg ≤ v → v < zn (Jr (p 4)) 3 → ¬ x209 s (nI v) = 0 → x15 p s (Jr (p 4) (172 + 5 * v + 1)) J = Int32.ofInt (-1)) := by
  have bb := zn_b hW.w
  have m1 : (Int32.ofInt (-1)).toInt = -1 := xi_m1
  intro c
  induction c with
  | zero =>
    intro a i h hc ha
    have t := z_tn h
    show a = Int32.ofInt (-1) ↔ _
    exact ⟨fun x => ⟨x, fun v v1 v2 => by omega⟩, fun x => x.1⟩
  | succ c ih =>
    intro a i h hc ha
    have t := z_tn h
    rw [x13_4, show J (p 32) 3 = Jr (p 4) 3 from zR_n hR (i := 3) (by omega)]
    by_cases h1 : Jr (p 4) 3 ≤ i
    · rw [if_pos h1]
      have h1 := z_ge.mp h1
      exact ⟨fun x => ⟨x, fun v v1 v2 => by omega⟩, fun x => x.1⟩
    · obtain ⟨hn, hi, v0, v1, v2, v3, v4, u0, u1, u2, u3, u4⟩ := zV hR hW.w h h1
      have v1 : J (p 38) i.toNatClampNeg = Jr (p 4) (172 + 5 * i.toNatClampNeg + 1) := v1
      have vo := hW.a.vo _ hn
      have i1 : (i + Int32.ofInt 1).toNatClampNeg = i.toNatClampNeg + 1 := zx_i h1 h
      have ei : nI i.toNatClampNeg = i := (z_nI h (by omega)).symm
      have nx := zi_i h1 h
      have dx := lx_dec h1 hc
      obtain ⟨f, ef⟩ : ∃ f, Jr (p 4) (172 + 5 * i.toNatClampNeg + 1) = f := ⟨_, rfl⟩
      rw [ef] at vo v1
      have f0 : 0 ≤ f.toInt := vo.2.2.1
      have fn : ¬ f = Int32.ofInt (-1) := fun x => by rw [x] at f0; omega
      rw [if_neg h1, z_has, v1]
      have skip : ∀ a', (a' = Int32.ofInt (-1) ∨ 0 ≤ a'.toInt) → (x209 s i = 0 ∨ x15 p s f J = Int32.ofInt (-1)) → (x13_4 p s J c a' (i + Int32.ofInt 1) = Int32.ofInt (-1) ↔ a' = Int32.ofInt (-1) ∧ ∀ v, i.toNatClampNeg ≤ v → v < zn (Jr (p 4)) 3 → ¬ x209 s (nI v) = 0 → x15 p s (Jr (p 4) (172 + 5 * v + 1)) J = Int32.ofInt (-1)) := by
        intro a' ha' hz
        rw [ih a' _ nx dx ha', i1]
        constructor
        · intro ⟨x, y⟩
          refine ⟨x, fun v w1 w2 w3 => ?_⟩
          by_cases e : v = i.toNatClampNeg
          · rw [e] at w3 ⊢
            rw [ei] at w3
            rw [ef]
            rcases hz with z | z
            · exact absurd z w3
            · exact z
          · exact y v (by omega) w2 w3
        · intro ⟨x, y⟩
          exact ⟨x, fun v w1 w2 w3 => y v (by omega) w2 w3⟩
      have dead : ∀ a', 0 ≤ a'.toInt → ¬ x13_4 p s J c a' (i + Int32.ofInt 1) = Int32.ofInt (-1) := by
        intro a' ha' x
        have := ((ih a' _ nx dx (Or.inr ha')).mp x).1
        rw [this] at ha'
        omega
      by_cases g : x209 s i = 0
      · rw [if_pos g]
        exact skip a ha (Or.inl g)
      · rw [if_neg g]
        by_cases am : a = Int32.ofInt (-1)
        · rw [if_pos am]
          by_cases k : x15 p s f J = Int32.ofInt (-1)
          · rw [if_pos k]
            exact skip a ha (Or.inr k)
          · rw [if_neg k]
            exact ⟨fun x => absurd x (dead f f0), fun x => by
              have := x.2 i.toNatClampNeg (Nat.le_refl _) hn (by rw [ei]; exact g)
              rw [ef] at this
              exact absurd this k⟩
        · have a0 : 0 ≤ a.toInt := by
            rcases ha with x | x
            · exact absurd x am
            · exact x
          have no : ∀ r, ¬ r = Int32.ofInt (-1) → (r = Int32.ofInt (-1) ↔ a = Int32.ofInt (-1) ∧ ∀ v, i.toNatClampNeg ≤ v → v < zn (Jr (p 4)) 3 → ¬ x209 s (nI v) = 0 → x15 p s (Jr (p 4) (172 + 5 * v + 1)) J = Int32.ofInt (-1)) := fun r hr => ⟨fun x => absurd x hr, fun x => absurd x.1 am⟩
          rw [if_neg am]
          by_cases q : a ≤ f
          · rw [if_pos q]
            exact no _ (dead a a0)
          · rw [if_neg q]
            by_cases k : x15 p s f J = Int32.ofInt (-1)
            · rw [if_pos k]
              exact no _ (dead a a0)
            · rw [if_neg k]
              exact no _ (dead f f0)
/-- the other's: -1 where no day fails -/
theorem zq_206l {p : Nat → Nat} {s : Int32} {J : Nat → Nat → Int32} : ∀ (c : Nat) (i : Int32), 0 ≤ i.toInt → 99 - i.toInt ≤ c → (x206_2 p s J c i < 0 ↔ ∀ d, i.toNatClampNeg ≤ d → d < 99 → x207 p s (nI d) J < 0) := by
  intro c
  induction c with
  | zero =>
    intro i h hc
    have t := z_tn h
    rw [x206_2]
    exact ⟨fun _ d d1 d2 => by omega, fun _ => by decide⟩
  | succ c ih =>
    intro i h hc
    have t := z_tn h
    rw [x206_2]
    by_cases h1 : Int32.ofInt 99 ≤ i
    · rw [if_pos h1]
      have h1 := z_ge.mp h1
      rw [show (Int32.ofInt 99).toInt = 99 from by decide] at h1
      exact ⟨fun _ d d1 d2 => by omega, fun _ => by decide⟩
    · rw [if_neg h1]
      have l := z_lt h1
      rw [show (Int32.ofInt 99).toInt = 99 from by decide] at l
      have hc' : (Int32.ofInt 99).toInt - i.toInt ≤ (c + 1 : Nat) := by
        rw [show (Int32.ofInt 99).toInt = 99 from by decide]
        exact hc
      have d := lx_dec h1 hc'
      rw [show (Int32.ofInt 99).toInt = 99 from by decide] at d
      have i1 : (i + Int32.ofInt 1).toNatClampNeg = i.toNatClampNeg + 1 := by
        rw [zn_t, zn_t, lx_inc h1]
        omega
      have ei : nI i.toNatClampNeg = i := (z_nI h (by omega)).symm
      by_cases g : x207 p s i J < 0
      · rw [if_pos g, ih _ (xi_nn h1 h) d, i1]
        exact ⟨fun x d d1 d2 => by
          by_cases e : d = i.toNatClampNeg
          · rw [e, ei]
            exact g
          · exact x d (by omega) d2, fun x d d1 d2 => x d (by omega) d2⟩
      · rw [if_neg g]
        exact ⟨fun x => by have := z_le0.mp x; omega, fun x => by
          have := x i.toNatClampNeg (Nat.le_refl _) (by omega)
          rw [ei] at this
          exact absurd this g⟩
/-- -1: of no kind too few, and no ship on two -/
theorem zq_207 {p : Nat → Nat} {s d : Int32} {J : Nat → Nat → Int32} {b : Int} (hW : zW (J (p 4)) b) : x207 p s d J = Int32.ofInt (-1) ↔ (∀ k : Int32, 0 ≤ k.toInt → k.toInt < (J (p 4) 0).toInt → (x207_18 p s d k J ((J (p 4) 3).toNatClampNeg) (Int32.ofInt 0) (Int32.ofInt 0)) ≤ x210 p k J) ∧ x207_90 p s d J ((J (p 4) 3).toNatClampNeg) (Int32.ofInt 0) (Int32.ofInt 0) = Int32.ofInt (-1) := by
  have bb := zn_b hW.w
  have key : ∀ (c : Nat) (i : Int32), 0 ≤ i.toInt → (J (p 4) 0).toInt - i.toInt ≤ c → (x207_2 p s d J c i = Int32.ofInt (-1) ↔ (∀ k : Int32, i.toInt ≤ k.toInt → k.toInt < (J (p 4) 0).toInt → (x207_18 p s d k J ((J (p 4) 3).toNatClampNeg) (Int32.ofInt 0) (Int32.ofInt 0)) ≤ x210 p k J) ∧ x207_90 p s d J ((J (p 4) 3).toNatClampNeg) (Int32.ofInt 0) (Int32.ofInt 0) = Int32.ofInt (-1)) := by
    intro c
    induction c with
    | zero =>
      intro i h hc
      rw [x207_2]
      exact ⟨fun x => ⟨fun k k1 k2 => by omega, x⟩, fun x => x.2⟩
    | succ c ih =>
      intro i h hc
      rw [x207_2]
      by_cases h1 : J (p 4) 0 ≤ i
      · rw [if_pos h1]
        have h1 := z_ge.mp h1
        exact ⟨fun x => ⟨fun k k1 k2 => by omega, x⟩, fun x => x.2⟩
      · rw [if_neg h1]
        have l := z_lt h1
        by_cases g : (x207_18 p s d i J ((J (p 4) 3).toNatClampNeg) (Int32.ofInt 0) (Int32.ofInt 0)) ≤ x210 p i J
        · rw [if_pos g, ih _ (xi_nn h1 h) (lx_dec h1 hc), lx_inc h1]
          exact ⟨fun x => ⟨fun k k1 k2 => by
            by_cases e : k = i
            · rw [e]
              exact g
            · exact x.1 k (by have : k.toInt ≠ i.toInt := fun y => e (Int32.toInt_inj.mp y); omega) k2, x.2⟩, fun x => ⟨fun k k1 k2 => x.1 k (by omega) k2, x.2⟩⟩
        · rw [if_neg g]
          exact ⟨fun x => by rw [x] at h; exact absurd h (by decide), fun x => absurd (x.1 i (Int.le_refl _) l) g⟩
  unfold x207
  rw [key _ (Int32.ofInt 0) (by decide) (by rw [zn_t, show (Int32.ofInt 0).toInt = 0 from by decide]; omega), show (Int32.ofInt 0).toInt = 0 from by decide]
/-- fewer at sea, less must be -/
theorem zmo_l {p : Nat → Nat} {s d f k : Int32} {J : Nat → Nat → Int32} {b : Int} (hW : zW (J (p 4)) b) (hk : 0 ≤ k.toInt ∧ k.toInt < (J (p 4) 0).toInt) (hs : ∀ i : Int32, 0 ≤ i.toInt → ¬ J (p 4) 3 ≤ i → ¬ x208 p s i d J = 0 → ¬ x208 p s i f J = 0) : ∀ (c : Nat) (a a' i : Int32), 0 ≤ i.toInt → i.toInt ≤ (J (p 4) 3).toInt → 0 ≤ a.toInt → a.toInt ≤ a'.toInt → a'.toInt ≤ 5 * i.toInt → (x207_18 p s d k J c a i).toInt ≤ (x207_18 p s f k J c a' i).toInt := by
  have bb := zn_b hW.w
  intro c
  induction c with
  | zero => intro a a' i h hi a0 aa h5; exact aa
  | succ c ih =>
    intro a a' i h hi a0 aa h5
    rw [x207_18, x207_18]
    by_cases h1 : J (p 4) 3 ≤ i
    · rw [if_pos h1, if_pos h1]
      exact aa
    · have lt := z_lt h1
      have x := zx bb.2.2.2.2.2.2.2 h h1
      have vo := hW.a.vo _ x.1
      have u0 : x180 p i (Int32.ofInt 0) J = J (p 4) (172 + 5 * i.toNatClampNeg + 0) := zx_v (k := 0) h (by omega) (by omega)
      have mu : 0 ≤ (x169 p (x180 p i (Int32.ofInt 0) J) k J).toInt ∧ (x169 p (x180 p i (Int32.ofInt 0) J) k J).toInt ≤ 5 := by
        have ek : Int32.ofInt ((k.toNatClampNeg : Nat) : Int) = k := z_oi hk.1 (by omega)
        have tk := z_tn hk.1
        have ts := z_tn vo.1
        rw [u0]
        have := zx_s (p := p) (J := J) (i := J (p 4) (172 + 5 * i.toNatClampNeg + 0)) (k := k.toNatClampNeg) vo.1 (by omega) (by omega)
        rw [ek] at this
        rw [this]
        exact hW.a.mu _ (by omega) _ (by omega)
      have nx := zi_i h1 h
      have ix := lx_inc h1
      have z0 : ∀ y : Int32, y + Int32.ofInt 0 = y := fun y => z_add0
      have ad : ∀ y : Int32, 0 ≤ y.toInt → y.toInt ≤ 1000 → (y + x169 p (x180 p i (Int32.ofInt 0) J) k J).toInt = y.toInt + (x169 p (x180 p i (Int32.ofInt 0) J) k J).toInt := fun y y0 y1 => by
        rw [Int32.toInt_add, Int.bmod_eq_of_le (by omega) (by omega)]
      rw [if_neg h1, if_neg h1, z0, z0]
      by_cases g : x208 p s i d J = 0
      · rw [if_pos g]
        by_cases g' : x208 p s i f J = 0
        · rw [if_pos g']
          exact ih _ _ _ nx (by omega) a0 aa (by omega)
        · rw [if_neg g']
          have := ad a' (by omega) (by omega)
          exact ih _ _ _ nx (by omega) a0 (by omega) (by omega)
      · rw [if_neg g, if_neg (hs i h h1 g)]
        have e1 := ad a (by omega) (by omega)
        have e2 := ad a' (by omega) (by omega)
        exact ih _ _ _ nx (by omega) (by omega) (by omega) (by omega)
theorem zmt_l {p : Nat → Nat} {s d f : Int32} {J : Nat → Nat → Int32} {b : Int} (hW : zW (J (p 4)) b) (hs : ∀ i : Int32, 0 ≤ i.toInt → ¬ J (p 4) 3 ≤ i → ¬ x208 p s i d J = 0 → ¬ x208 p s i f J = 0) : ∀ (c n n' : Nat) (i : Int32), 0 ≤ i.toInt → n < 256 → n' < 256 → (∀ j, j < 8 → ¬ x209 (nI n) (nI j) = 0 → ¬ x209 (nI n') (nI j) = 0) → x207_90 p s f J c (nI n') i = Int32.ofInt (-1) → x207_90 p s d J c (nI n) i = Int32.ofInt (-1) := by
  have bb := zn_b hW.w
  intro c
  induction c with
  | zero => intro n n' i h hn hn' hsub hf; rfl
  | succ c ih =>
    intro n n' i h hn hn' hsub hf
    rw [x207_90] at hf ⊢
    by_cases h1 : J (p 4) 3 ≤ i
    · rw [if_pos h1]
    · rw [if_neg h1] at hf ⊢
      have x := zx bb.2.2.2.2.2.2.2 h h1
      have vo := hW.a.vo _ x.1
      have u0 : x180 p i (Int32.ofInt 0) J = J (p 4) (172 + 5 * i.toNatClampNeg + 0) := zx_v (k := 0) h (by omega) (by omega)
      obtain ⟨S, eS⟩ : ∃ S, J (p 4) (172 + 5 * i.toNatClampNeg + 0) = S := ⟨_, rfl⟩
      rw [eS] at u0 vo
      have ts := z_tn vo.1
      have l8 : S.toNatClampNeg < 8 := by omega
      have e8 : nI S.toNatClampNeg = S := (z_nI vo.1 (by omega)).symm
      have nx := zi_i h1 h
      rw [u0] at hf ⊢
      by_cases g' : x208 p s i f J = 0
      · rw [if_pos g'] at hf
        have g : x208 p s i d J = 0 := Classical.byContradiction fun y => hs i h h1 y g'
        rw [if_pos g]
        exact ih n n' _ nx hn hn' hsub hf
      · rw [if_neg g'] at hf
        by_cases k' : x209 (nI n') S = 0
        · rw [if_pos k'] at hf
          obtain ⟨o1, o2⟩ := zt_or n' hn' S.toNatClampNeg l8
          rw [e8] at o1
          rw [o1] at hf
          have sub2 : ∀ j, j < 8 → ¬ x209 (nI n) (nI j) = 0 → ¬ x209 (nI (n' ||| (1 <<< S.toNatClampNeg))) (nI j) = 0 := by
            intro j hj q
            rw [zt_bit n' hn' S.toNatClampNeg l8 j hj]
            by_cases e : j = S.toNatClampNeg
            · rw [if_pos e]
              decide
            · rw [if_neg e]
              exact hsub j hj q
          by_cases g : x208 p s i d J = 0
          · rw [if_pos g]
            exact ih n _ _ nx hn o2 sub2 hf
          · rw [if_neg g]
            have k : x209 (nI n) S = 0 := Classical.byContradiction fun y => by
              have := hsub S.toNatClampNeg l8 (by rw [e8]; exact y)
              rw [e8] at this
              exact this k'
            rw [if_pos k]
            obtain ⟨q1, q2⟩ := zt_or n hn S.toNatClampNeg l8
            rw [e8] at q1
            rw [q1]
            refine ih _ _ _ nx q2 o2 (fun j hj q => ?_) hf
            rw [zt_bit n hn S.toNatClampNeg l8 j hj] at q
            rw [zt_bit n' hn' S.toNatClampNeg l8 j hj]
            by_cases e : j = S.toNatClampNeg
            · rw [if_pos e]
              decide
            · rw [if_neg e] at q ⊢
              exact hsub j hj q
        · rw [if_neg k'] at hf
          exact absurd hf (by decide)
theorem zmono {p : Nat → Nat} {s d f : Int32} {J : Nat → Nat → Int32} {b : Int} (hW : zW (J (p 4)) b) (hs : ∀ i : Int32, 0 ≤ i.toInt → ¬ J (p 4) 3 ≤ i → ¬ x208 p s i d J = 0 → ¬ x208 p s i f J = 0) (h : x207 p s f J = Int32.ofInt (-1)) : x207 p s d J = Int32.ofInt (-1) := by
  have bb := zn_b hW.w
  have z0 : (Int32.ofInt 0).toInt = 0 := by decide
  obtain ⟨h1, h2⟩ := (zq_207 hW).mp h
  refine (zq_207 hW).mpr ⟨fun k k0 k1 => ?_, zmt_l hW hs _ 0 0 _ (by decide) (by omega) (by omega) (fun j hj q => q) h2⟩
  have a := Int32.le_iff_toInt_le.mp (h1 k k0 k1)
  have m := zmo_l hW ⟨k0, k1⟩ hs ((J (p 4) 3).toNatClampNeg) (Int32.ofInt 0) (Int32.ofInt 0) (Int32.ofInt 0) (by decide) (by rw [z0]; omega) (by decide) (Int.le_refl _) (by decide)
  exact Int32.le_iff_toInt_le.mpr (by omega)
/-- nobody at sea: nothing fails -/
theorem zempty {p : Nat → Nat} {s d : Int32} {J : Nat → Nat → Int32} {b : Int} (hW : zW (J (p 4)) b) (hs : ∀ i : Int32, 0 ≤ i.toInt → ¬ J (p 4) 3 ≤ i → x208 p s i d J = 0) : x207 p s d J = Int32.ofInt (-1) := by
  have bb := zn_b hW.w
  have e18 : ∀ (k : Int32) (c : Nat) (i : Int32), 0 ≤ i.toInt → x207_18 p s d k J c (Int32.ofInt 0) i = Int32.ofInt 0 := by
    intro k c
    induction c with
    | zero => intro i h; rfl
    | succ c ih =>
      intro i h
      rw [x207_18]
      by_cases h1 : J (p 4) 3 ≤ i
      · rw [if_pos h1]
      · rw [if_neg h1, if_pos (hs i h h1), z_add0]
        exact ih _ (zi_i h1 h)
  have e90 : ∀ (c : Nat) (a i : Int32), 0 ≤ i.toInt → x207_90 p s d J c a i = Int32.ofInt (-1) := by
    intro c
    induction c with
    | zero => intro a i h; rfl
    | succ c ih =>
      intro a i h
      rw [x207_90]
      by_cases h1 : J (p 4) 3 ≤ i
      · rw [if_pos h1]
      · rw [if_neg h1, if_pos (hs i h h1)]
        exact ih _ _ (zi_i h1 h)
  refine (zq_207 hW).mpr ⟨fun k k0 k1 => ?_, e90 _ _ _ (by decide)⟩
  rw [e18 k _ _ (by decide), Int32.le_iff_toInt_le, show (Int32.ofInt 0).toInt = 0 from by decide]
  unfold x210
  refine x210_4_rule (I := fun _ a i => 0 ≤ a.toInt ∧ a.toInt ≤ i.toInt ∧ i.toInt ≤ (J (p 4) 2).toInt) (Q := fun r => 0 ≤ r.toInt) ?_ ?_ _ _ _ ⟨by decide, by decide, by rw [show (Int32.ofInt 0).toInt = 0 from by decide]; omega⟩
  · intro a i h
    exact h.1
  · intro c a i h
    by_cases h1 : J (p 4) 2 ≤ i
    · rw [if_pos h1]
      exact h.1
    · rw [if_neg h1]
      have l := z_lt h1
      have ix := lx_inc h1
      have ad : (a + Int32.ofInt 1).toInt = a.toInt + 1 := by
        rw [Int32.toInt_add, show (Int32.ofInt 1).toInt = 1 from by decide, Int.bmod_eq_of_le (by omega) (by omega)]
      have az : a + Int32.ofInt 0 = a := z_add0
      refine z_ite (z_ite ?_ ?_) ?_
      · exact ⟨by omega, by omega, by omega⟩
      · rw [az]
        exact ⟨by omega, by omega, by omega⟩
      · rw [az]
        exact ⟨by omega, by omega, by omega⟩
theorem z_on {p : Nat → Nat} {s i : Int32} {d : Nat} {J : Nat → Nat → Int32} {b : Int} (hW : zW (J (p 4)) b) (hd : d < 1000) (h : 0 ≤ i.toInt) (h1 : ¬ J (p 4) 3 ≤ i) : ¬ x208 p s i (nI d) J = 0 ↔ ¬ x209 s i = 0 ∧ (J (p 4) (172 + 5 * i.toNatClampNeg + 1)).toInt ≤ d ∧ (d : Int) < (J (p 4) (172 + 5 * i.toNatClampNeg + 2)).toInt := by
  have bb := zn_b hW.w
  have x := zx bb.2.2.2.2.2.2.2 h h1
  have u1 : x180 p i (Int32.ofInt 1) J = J (p 4) (172 + 5 * i.toNatClampNeg + 1) := zx_v (k := 1) h (by omega) (by omega)
  have u2 : x180 p i (Int32.ofInt 2) J = J (p 4) (172 + 5 * i.toNatClampNeg + 2) := zx_v (k := 2) h (by omega) (by omega)
  have dt : (nI d).toInt = d := nI_toInt (by omega)
  have o0 : Int32.ofInt 0 = 0 := rfl
  unfold x208
  rw [u1, u2]
  by_cases a : x209 s i = 0
  · rw [if_pos a]
    exact ⟨fun y => absurd o0 y, fun y => absurd a y.1⟩
  · rw [if_neg a]
    by_cases e : nI d < J (p 4) (172 + 5 * i.toNatClampNeg + 1)
    · rw [if_pos e]
      have e := Int32.lt_iff_toInt_lt.mp e
      exact ⟨fun y => absurd o0 y, fun y => by omega⟩
    · rw [if_neg e]
      have e : ¬ (nI d).toInt < (J (p 4) (172 + 5 * i.toNatClampNeg + 1)).toInt := fun y => e (Int32.lt_iff_toInt_lt.mpr y)
      by_cases g : J (p 4) (172 + 5 * i.toNatClampNeg + 2) ≤ nI d
      · rw [if_pos g]
        have g := Int32.le_iff_toInt_le.mp g
        exact ⟨fun y => absurd o0 y, fun y => by omega⟩
      · rw [if_neg g]
        have g : ¬ (J (p 4) (172 + 5 * i.toNatClampNeg + 2)).toInt ≤ (nI d).toInt := fun y => g (Int32.le_iff_toInt_le.mpr y)
        exact ⟨fun _ => ⟨a, by omega, by omega⟩, fun _ => by decide⟩
/-- where no voyage's first day fails, no day fails -/
theorem zdays {p : Nat → Nat} {s : Int32} {J : Nat → Nat → Int32} {b : Int} (hW : zW (J (p 4)) b) (hf : ∀ v, v < zn (J (p 4)) 3 → ¬ x209 s (nI v) = 0 → x207 p s (J (p 4) (172 + 5 * v + 1)) J = Int32.ofInt (-1)) : ∀ d, d < 99 → x207 p s (nI d) J = Int32.ofInt (-1) := by
  have bb := zn_b hW.w
  intro d
  induction d with
  | zero =>
    intro _
    by_cases q : ∃ i : Int32, 0 ≤ i.toInt ∧ ¬ J (p 4) 3 ≤ i ∧ ¬ x208 p s i (nI 0) J = 0
    · obtain ⟨i, i0, i1, i2⟩ := q
      have x := zx bb.2.2.2.2.2.2.2 i0 i1
      have vo := hW.a.vo _ x.1
      obtain ⟨g1, g2, g3⟩ := (z_on hW (by omega) i0 i1).mp i2
      have ei : nI i.toNatClampNeg = i := (z_nI i0 (by omega)).symm
      have e : J (p 4) (172 + 5 * i.toNatClampNeg + 1) = nI 0 := Int32.toInt_inj.mp (by rw [nI_toInt (by omega)]; omega)
      have := hf _ x.1 (by rw [ei]; exact g1)
      rw [e] at this
      exact this
    · exact zempty hW fun i i0 i1 => Classical.byContradiction fun y => q ⟨i, i0, i1, y⟩
  | succ d ih =>
    intro hd
    by_cases q : ∃ i : Int32, 0 ≤ i.toInt ∧ ¬ J (p 4) 3 ≤ i ∧ ¬ x209 s i = 0 ∧ (J (p 4) (172 + 5 * i.toNatClampNeg + 1)).toInt = (d + 1 : Nat)
    · obtain ⟨i, i0, i1, g1, g2⟩ := q
      have x := zx bb.2.2.2.2.2.2.2 i0 i1
      have ei : nI i.toNatClampNeg = i := (z_nI i0 (by omega)).symm
      have e : J (p 4) (172 + 5 * i.toNatClampNeg + 1) = nI (d + 1) := Int32.toInt_inj.mp (by rw [nI_toInt (by omega)]; exact g2)
      have := hf _ x.1 (by rw [ei]; exact g1)
      rw [e] at this
      exact this
    · refine zmono hW (fun i i0 i1 i2 => ?_) (ih (by omega))
      obtain ⟨g1, g2, g3⟩ := (z_on hW (by omega) i0 i1).mp i2
      refine (z_on hW (by omega) i0 i1).mpr ⟨g1, ?_, by omega⟩
      have : ¬ (J (p 4) (172 + 5 * i.toNatClampNeg + 1)).toInt = (d + 1 : Nat) := fun y => q ⟨i, i0, i1, g1, y⟩
      omega
theorem zq_13 {p : Nat → Nat} {J Jr : Nat → Nat → Int32} {s : Int32} {b : Int} (hR : zR (fun i => p (31 + i)) J (Jr (p 4))) (hW : zW (Jr (p 4)) b) (hk : ∀ k, k < 4 → J (p 29) k = x210 p (Int32.ofInt (k : Int)) Jr) : x13 p s J = Int32.ofInt (-1) ↔ x206 p s Jr < 0 := by
  have bb := zn_b hW.w
  have z0 : (Int32.ofInt 0).toInt = 0 := by decide
  have n0 : (Int32.ofInt 0).toNatClampNeg = 0 := rfl
  have a := zq_13l (s := s) hR hW ((Jr (p 4) 3).toNatClampNeg) (Int32.ofInt (-1)) (Int32.ofInt 0) (by decide) (by rw [zn_t, z0]; omega) (Or.inl rfl)
  have c := zq_206l (p := p) (s := s) (J := Jr) ((Int32.ofInt 99).toNatClampNeg) (Int32.ofInt 0) (by decide) (by decide)
  unfold x13 x206
  rw [show J (p 32) 3 = Jr (p 4) 3 from zR_n hR (i := 3) (by omega), a, c, n0]
  constructor
  · intro ⟨_, h⟩ d _ hd
    refine (z207 hW).mpr (zdays hW (fun v v1 v2 => ?_) d hd)
    rw [← zq_15 hR hW hk]
    exact h v (Nat.zero_le _) v1 v2
  · intro h
    refine ⟨rfl, fun v _ v1 v2 => ?_⟩
    have vo := hW.a.vo v v1
    have t := z_tn vo.2.2.1
    have ef : nI (Jr (p 4) (172 + 5 * v + 1)).toNatClampNeg = Jr (p 4) (172 + 5 * v + 1) := (z_nI vo.2.2.1 (by omega)).symm
    rw [zq_15 hR hW hk, ← ef]
    exact (z207 hW).mp (h _ (Nat.zero_le _) (by omega))
end
section
/-! look, most: both sides -/
def lk (M : nt_M) (p : Nat → Nat) : nt_M := nt_sR (nt_sR M (p 28) 0 (some (p 31))) (p 28) 1 (some (p 32))
theorem lk_R {M : nt_M} {p : Nat → Nat} {a j : Nat} (h : a = p 28 → j ≠ 0 ∧ j ≠ 1) : nt_R (lk M p) a j = nt_R M a j := by
  unfold lk
  rw [me_R, me_R]
  by_cases e : a = p 28
  · rw [if_pos e, if_neg (h e).2, if_pos e, if_neg (h e).1]
  · rw [if_neg e, if_neg e]
theorem lk_P {M : nt_M} {p : Nat → Nat} (hp : xs_P M p) : xs_P (lk M p) p := by
  refine ⟨fun t ht => ?_, hp.2.1, hp.2.2.1, hp.2.2.2⟩
  have l := (show ∀ t ∈ xs_U, t.1 < 66 ∧ (t.1 = 28 → t.2.1 ≠ 0 ∧ t.2.1 ≠ 1) from by decide) t ht
  rw [lk_R (fun e => l.2 (Classical.byContradiction fun c => hp.2.1 t.1 28 l.1 (by omega) c e))]
  exact hp.1 t ht
theorem lk_Q {M : nt_M} {p : Nat → Nat} (hp : xs_P M p) (hn : xs_Q M (fun i => p (31 + i))) : xs_Q (lk M p) (fun i => p (31 + i)) := by
  refine ⟨fun t ht => ?_, hn.2.1, hn.2.2.1, hn.2.2.2⟩
  have l := (show ∀ t ∈ xs_T, t.1 < 17 from by decide) t ht
  rw [lk_R (fun e => absurd e (hp.2.1 (31 + t.1) 28 (by omega) (by omega) (by omega)))]
  exact hn.1 t ht
theorem lk_V {M : nt_M} {p : Nat → Nat} (hl : nt_l M (p 29) = 4 ∧ nt_l M (p 30) = 4) : xs_V (lk M p) p := by
  refine ⟨?_, ?_, hl.1, hl.2⟩
  · unfold lk
    rw [me_R, me_R, if_pos rfl, if_neg (by omega), if_pos rfl, if_pos rfl]
  · unfold lk
    rw [me_R, if_pos rfl, if_pos rfl]
theorem zz_L {pl : Nat → Nat} {v : Nat → Int} {M : nt_M} (hB : ly_B pl v M) : nt_l M (pl 29) = 4 ∧ nt_l M (pl 30) = 4 := by
  have a := (hB.2.1.2 29 _ (show ly_E.2.1[29]? = some (13, 4, 4, 0) from rfl)).2.2.1
  have b := (hB.2.1.2 30 _ (show ly_E.2.1[30]? = some (13, 4, 4, 0) from rfl)).2.2.1
  dsimp only at a b
  exact ⟨by omega, by omega⟩
theorem xr12 {X : nt_X} {d : Nat} {M : nt_M} {o : Option Value × nt_M} {p : Nat → Nat} {J : Nat → Nat → Int32} (hp : xs_P M p) (hn : xs_Q M (fun i => p (31 + i))) (hl : nt_l M (p 29) = 4 ∧ nt_l M (p 30) = 4) (k : nt_ev X d 12 [.ref (p 28), .ref (p 31)] (me_w M J) o) : o = (none, me_w (lk M p) (x12F p J)) := by
  have k : nt_rn X d 12 (0, [(0, .ref (p 28)), (1, .ref (p 31))], [], me_w M J) o := k
  have k := ly_revb 2 (c' := (2, [(0, .ref (p 28)), (1, .ref (p 31))], [.ref (p 31), .ref (p 28)], me_w M J)) rfl k
  have k := lz_putr rfl (by decide) k
  have k : nt_rn X d 12 (5, [(0, .ref (p 28)), (1, .ref (p 31))], [], me_w (nt_sR M (p 28) 0 (some (p 31))) J) o := k
  have k := ly_revb 2 (c' := (7, [(0, .ref (p 28)), (1, .ref (p 31))], [.ref (p 31), .ref (p 28)], me_w (nt_sR M (p 28) 0 (some (p 31))) J)) rfl k
  have k := lz_get (a := (p 31)) (g := 600) (M := me_w (nt_sR M (p 28) 0 (some (p 31))) J) (v := .ref (p 32)) rfl (nt_gfR rfl ((me_Ro (hp.2.1 31 28 (by omega) (by omega) (by omega))).trans (hn.1 (0, 0, 1) (by decide)))) k
  have k := lz_putr rfl (by decide) k
  exact xt12F (lk_P hp) (lk_Q hp hn) (lk_V hl) k
theorem xr117 {X : nt_X} {d : Nat} {M : nt_M} {o : Option Value × nt_M} {p : Nat → Nat} {v1 : Int32} {J : Nat → Nat → Int32} (hp : xs_P M p) (hn : xs_Q M (fun i => p (31 + i))) (hl : nt_l M (p 29) = 4 ∧ nt_l M (p 30) = 4) (k : nt_ev X d 117 [.ref (p 16), .int v1] (me_w M J) o) : o.1 = some (.int (if J (p 31) 1 = 0 then (Int32.ofInt (-1)) else if v1 < 0 then (Int32.ofInt (-1)) else if v1 ≤ Int32.ofInt 1 then x117F p v1 (x12F p J) else (Int32.ofInt (-1)))) := by
  have k : nt_rn X d 117 (0, [(0, .ref (p 16)), (1, .int v1)], [], me_w M J) o := k
  have k := ly_revb 1 (c' := (1, [(0, .ref (p 16)), (1, .int v1)], [.ref (p 16)], me_w M J)) rfl k
  have k := lz_get (a := (p 16)) (g := 1007) (M := me_w M J) (v := .ref (p 31)) rfl (nt_gfR rfl (hp.1 (16, 7, 31) (by decide))) k
  have k := lz_get (a := (p 31)) (g := 601) (M := me_w M J) (v := .int (J (p 31) 1)) rfl (congrArg Value.int (rfl)) k
  have k := ly_revb 1 (c' := (if (J (p 31) 1) = 0 then 19 else 10, [(0, .ref (p 16)), (1, .int v1)], [], me_w M J)) rfl k
  by_cases h7 : (J (p 31) 1) = 0
  · rw [if_pos h7] at k
    rw [if_pos h7]
    have k := ly_revb 1 (c' := (20, [(0, .ref (p 16)), (1, .int v1)], [.int (Int32.ofInt (-1))], me_w M J)) rfl k
    have k := lz_ri rfl (by decide) k
    rw [k]
  · rw [if_neg h7] at k
    rw [if_neg h7]
    have k := ly_revb 2 (c' := (if v1 < 0 then 19 else 14, [(0, .ref (p 16)), (1, .int v1)], [], me_w M J)) rfl k
    by_cases h11 : v1 < 0
    · rw [if_pos h11] at k
      rw [if_pos h11]
      have k := ly_revb 1 (c' := (20, [(0, .ref (p 16)), (1, .int v1)], [.int (Int32.ofInt (-1))], me_w M J)) rfl k
      have k := lz_ri rfl (by decide) k
      rw [k]
    · rw [if_neg h11] at k
      rw [if_neg h11]
      have k := ly_revb 3 (c' := (if v1 ≤ (Int32.ofInt 1) then 21 else 19, [(0, .ref (p 16)), (1, .int v1)], [], me_w M J)) rfl k
      by_cases h16 : v1 ≤ (Int32.ofInt 1)
      · rw [if_pos h16] at k
        rw [if_pos h16]
        have k := ly_revb 1 (c' := (22, [(0, .ref (p 16)), (1, .int v1)], [.ref (p 16)], me_w M J)) rfl k
        have k := lz_get (a := (p 16)) (g := 1006) (M := me_w M J) (v := .ref (p 28)) rfl (nt_gfR rfl (hp.1 (16, 6, 28) (by decide))) k
        have k := ly_revb 1 (c' := (26, [(0, .ref (p 16)), (1, .int v1)], [.ref (p 16), .ref (p 28)], me_w M J)) rfl k
        have k := lz_get (a := (p 16)) (g := 1007) (M := me_w M J) (v := .ref (p 31)) rfl (nt_gfR rfl (hp.1 (16, 7, 31) (by decide))) k
        obtain ⟨d1, o1, ed, kc, k⟩ := lz_c (g := 12) (q := 1) (vs := [.ref (p 28), .ref (p 31)]) (rest := []) rfl rfl (by decide) (Or.inr (Or.inl ⟨_, rfl, rfl⟩)) rfl k
        have e1 := xr12 hp hn hl kc
        subst e1
        have k : nt_rn X _ 117 (32, [(0, .ref (p 16)), (1, .int v1)], [], me_w (lk M p) (x12F p J)) _ := k
        rw [xt117F (lk_P hp) (lk_Q hp hn) (lk_V hl) k]
      · rw [if_neg h16] at k
        rw [if_neg h16]
        have k := ly_revb 1 (c' := (20, [(0, .ref (p 16)), (1, .int v1)], [.int (Int32.ofInt (-1))], me_w M J)) rfl k
        have k := lz_ri rfl (by decide) k
        rw [k]
theorem z_le1 {x : Int32} : x ≤ Int32.ofInt 1 ↔ x.toInt ≤ 1 := by
  rw [Int32.le_iff_toInt_le, show (Int32.ofInt 1).toInt = 1 from by decide]
theorem zt_n {e : Nat → Int32} {i : Int32} {k : Nat} (h : 0 ≤ i.toInt) (hk : (e k).toInt = zn e k) (hm : zn e k ≤ 8) (h1 : ¬ (Int32.ofInt 1 <<< (e k &&& 31)) ≤ i) : ∃ n, n < 256 ∧ i = nI n := by
  have l := z_lt h1
  have ek : e k = nI (zn e k) := z_nI (by omega) (by omega)
  have s := (zt_sh (zn e k) (by omega)).1
  rw [← ek] at s
  have t := z_tn h
  exact ⟨i.toNatClampNeg, by omega, z_nI h (by omega)⟩
theorem z213_0l {p : Nat → Nat} {J : Nat → Nat → Int32} (hW : xr_W (J (p 4))) : ∀ (c : Nat) (i : Int32), 0 ≤ i.toInt → x213_4 p (Int32.ofInt 0) J c (Int32.ofInt 0) i = Int32.ofInt 0 := by
  have bb := zn_b hW
  intro c
  induction c with
  | zero => intro i h; rfl
  | succ c ih =>
    intro i h
    rw [x213_4]
    by_cases h1 : J (p 4) 3 ≤ i
    · rw [if_pos h1]
    · have x := zx bb.2.2.2.2.2.2.2 h h1
      have ei : nI i.toNatClampNeg = i := (z_nI h (by omega)).symm
      have e := zt_0 i.toNatClampNeg (by omega)
      rw [ei] at e
      have e : x209 (Int32.ofInt 0) i = 0 := e
      rw [if_neg h1, if_pos e, z_add0]
      exact ih _ (zi_i h1 h)
theorem zbest_l {p : Nat → Nat} {J Jr : Nat → Nat → Int32} {b : Int} {w : Int32} (hR : zR (fun i => p (31 + i)) J (Jr (p 4))) (hW : zW (Jr (p 4)) b) (hk : ∀ k, k < 4 → J (p 29) k = x210 p (Int32.ofInt (k : Int)) Jr) : ∀ (c : Nat) (best set : Int32), 0 ≤ set.toInt → (∃ n, n < 256 ∧ best = nI n) → x212_23 p w Jr c best set = (if w = 0 then x213 p (x19_6 p J c best (x213 p best Jr) set) Jr else x19_6 p J c best (x213 p best Jr) set) := by
  have bb := zn_b hW.w
  have o10 : ¬ Int32.ofInt 1 = 0 := by decide
  have o00 : Int32.ofInt 0 = 0 := rfl
  intro c
  induction c with
  | zero => intro best set h hb; rfl
  | succ c ih =>
    intro best set h hb
    rw [x212_23, x19_6, show J (p 32) 3 = Jr (p 4) 3 from zR_n hR (i := 3) (by omega)]
    by_cases h1 : Int32.ofInt 1 <<< (Jr (p 4) 3 &&& 31) ≤ set
    · simp only [-Int32.reduceOfInt, if_pos h1]
    · have hn := zt_n h bb.2.2.2.2.2.2.2 bb.2.2.2.1 h1
      have nx := zi_i h1 h
      have t1 : x236 best = x214 best := by
        obtain ⟨n, l, e⟩ := hb
        rw [e]
        exact zb_t n l
      have t2 : x236 set = x214 set := by
        obtain ⟨n, l, e⟩ := hn
        rw [e]
        exact zb_t n l
      have f : x13 p set J = Int32.ofInt (-1) ↔ ¬ 0 ≤ x206 p set Jr := by
        rw [zq_13 hR hW hk, Int32.lt_iff_toInt_lt, Int32.le_iff_toInt_le]
        omega
      have i0 := ih best (set + Int32.ofInt 1) nx hb
      have i1 := ih set (set + Int32.ofInt 1) nx hn
      simp only [-Int32.reduceOfInt, if_neg h1]
      rw [zq_20 hR hW.w]
      unfold x21
      rw [t1, t2]
      by_cases c2 : 0 ≤ x206 p set Jr
      · have g2 : ¬ x13 p set J = Int32.ofInt (-1) := fun x => f.mp x c2
        simp only [-Int32.reduceOfInt, if_pos c2, if_neg g2, ite_self]
        exact i0
      · have g2 : x13 p set J = Int32.ofInt (-1) := f.mpr c2
        simp only [-Int32.reduceOfInt, if_neg c2, if_pos g2]
        by_cases c1 : x213 p best Jr < x213 p set Jr
        · simp only [-Int32.reduceOfInt, if_pos c1, if_neg o10]
          exact i1
        · by_cases c3 : x213 p set Jr = x213 p best Jr
          · by_cases c4 : x214 best ≤ x214 set
            · simp only [-Int32.reduceOfInt, if_neg c1, if_pos c3, if_pos c4, if_pos o00]
              exact i0
            · simp only [-Int32.reduceOfInt, if_neg c1, if_pos c3, if_neg c4, if_neg o10]
              exact i1
          · simp only [-Int32.reduceOfInt, if_neg c1, if_neg c3, if_pos o00]
            exact i0
theorem zq_117 {p : Nat → Nat} {Jc Jr : Nat → Nat → Int32} {v1 : Int32} {b : Int} (hp : zpd p) (hR : zR (fun i => p (31 + i)) Jc (Jr (p 4))) (hW : zW (Jr (p 4)) b) : (if Jc (p 31) 1 = 0 then (Int32.ofInt (-1)) else if v1 < 0 then (Int32.ofInt (-1)) else if v1 ≤ Int32.ofInt 1 then x117F p v1 (x12F p Jc) else (Int32.ofInt (-1))) = x212 p v1 Jr := by
  have t : Jc (p 31) 1 = 0 ↔ x188 p Jr = 0 := z_told hR hW.w
  unfold x212
  by_cases c1 : Jc (p 31) 1 = 0
  · rw [if_pos c1, if_pos (t.mp c1)]
  · rw [if_neg c1, if_neg (fun x => c1 (t.mpr x)), z_145, z_j0, z_j1]
    by_cases c2 : v1.toInt < 0
    · rw [if_pos (z_i0.mpr c2), if_pos (show v1.toInt < 0 ∨ 1 < v1.toInt from Or.inl c2), if_pos (show Int32.ofInt 0 = 0 from rfl)]
    · rw [if_neg (fun h => c2 (z_i0.mp h))]
      by_cases c3 : 1 < v1.toInt
      · rw [if_neg (fun h => by have := z_le1.mp h; omega), if_pos (show v1.toInt < 0 ∨ 1 < v1.toInt from Or.inr c3), if_pos (show Int32.ofInt 0 = 0 from rfl)]
      · rw [if_pos (z_le1.mpr (by omega)), if_neg (show ¬ (v1.toInt < 0 ∨ 1 < v1.toInt) from by omega), if_neg (show ¬ Int32.ofInt 1 = 0 from by decide)]
        have RR := zlk_R hp hR
        have z := zbest_l (w := v1) RR hW (fun k hk => (zlk hp hR hW hk).1) ((Int32.ofInt 1 <<< (Jr (p 4) 3 &&& 31)).toNatClampNeg) (Int32.ofInt 0) (Int32.ofInt 1) (by decide) ⟨0, by omega, rfl⟩
        rw [show x213 p (Int32.ofInt 0) Jr = Int32.ofInt 0 from z213_0l hW.w _ _ (by decide)] at z
        rw [z]
        unfold x117F x19
        rw [show x12F p Jc (p 32) 3 = Jr (p 4) 3 from zR_n RR (i := 3) (by omega), zq_20 RR hW.w]
theorem zz_a_most {X : nt_X} {pl : Nat → Nat} {v v1 : Nat → Int} {M M1 M2 : nt_M} {y1 y2 a : Int32} (hB : ly_B pl v M) (hB1 : ly_B pl v1 M1) (e1 : nt_ev X 99 117 [.ref (pl 16), .int a] M (some (.int y1), M1)) (e2 : nt_ev X 99 212 [.ref (pl 0), .int a] M1 (some (.int y2), M2)) (hZ : zz_E pl M) : y1 = y2 := by
  have t1 : zz_T zz_ok pl M M1 := zz_g1 a (ko_w_n_most X) rfl (by decide +kernel) (by decide +kernel) (by decide) hB e1
  have r4 : nt_I M1 (pl 4) = nt_I M (pl 4) := t1 4 (by omega) rfl
  obtain ⟨hR, hW, hd, hz⟩ := hZ.1
  rw [← r4] at hR hW
  have y1e := xr117 (p := pl) (J := nt_I M) (zz_P hB) (zz_Qn hB) (zz_L hB) e1
  obtain ⟨y2e, _⟩ := lq_out (xt212 (p := pl) (J := nt_I M1) (zz_P hB1) e2)
  have y1e := Value.int.inj (Option.some.inj y1e)
  rw [y1e, y2e]
  exact zq_117 (zz_ne hB) hR hW
end
