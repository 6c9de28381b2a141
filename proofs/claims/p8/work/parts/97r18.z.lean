/-! look, most: both sides -/
def lk (M : nt_M) (p : Nat → Nat) : nt_M := nt_sR (nt_sR M (p 28) 0 (some (p 31))) (p 28) 1 (some (p 32))
theorem lk_R {M : nt_M} {p : Nat → Nat} {a j : Nat} (h : a = p 28 → j ≠ 0 ∧ j ≠ 1) : nt_R (lk M p) a j = nt_R M a j := by
  unfold lk
  rw [me_R, me_R]
  by_cases e : a = p 28
  · rw [if_pos e, if_neg (h e).2, if_pos e, if_neg (h e).1]
  · rw [if_neg e, if_neg e]
theorem lk_P {M : nt_M} {p : Nat → Nat} (hp : xs_P M p) : xs_P (lk M p) p := by
  refine ⟨fun t ht => ?_, hp.2.1, hp.2.2.1, hp.2.2.2⟩
  have l := (show ∀ t ∈ xs_U, t.1 < 66 ∧ (t.1 = 28 → t.2.1 ≠ 0 ∧ t.2.1 ≠ 1) from by decide) t ht
  rw [lk_R (fun e => l.2 (Classical.byContradiction fun c => hp.2.1 t.1 28 l.1 (by omega) c e))]
  exact hp.1 t ht
theorem lk_Q {M : nt_M} {p : Nat → Nat} (hp : xs_P M p) (hn : xs_Q M (fun i => p (31 + i))) : xs_Q (lk M p) (fun i => p (31 + i)) := by
  refine ⟨fun t ht => ?_, hn.2.1, hn.2.2.1, hn.2.2.2⟩
  have l := (show ∀ t ∈ xs_T, t.1 < 17 from by decide) t ht
  rw [lk_R (fun e => absurd e (hp.2.1 (31 + t.1) 28 (by omega) (by omega) (by omega)))]
  exact hn.1 t ht
theorem lk_V {M : nt_M} {p : Nat → Nat} (hl : nt_l M (p 29) = 4 ∧ nt_l M (p 30) = 4) : xs_V (lk M p) p := by
  refine ⟨?_, ?_, hl.1, hl.2⟩
  · unfold lk
    rw [me_R, me_R, if_pos rfl, if_neg (by omega), if_pos rfl, if_pos rfl]
  · unfold lk
    rw [me_R, if_pos rfl, if_pos rfl]
theorem zz_L {pl : Nat → Nat} {v : Nat → Int} {M : nt_M} (hB : ly_B pl v M) : nt_l M (pl 29) = 4 ∧ nt_l M (pl 30) = 4 := by
  have a := (hB.2.1.2 29 _ (show ly_E.2.1[29]? = some (13, 4, 4, 0) from rfl)).2.2.1
  have b := (hB.2.1.2 30 _ (show ly_E.2.1[30]? = some (13, 4, 4, 0) from rfl)).2.2.1
  dsimp only at a b
  exact ⟨by omega, by omega⟩
theorem xr12 {X : nt_X} {d : Nat} {M : nt_M} {o : Option Value × nt_M} {p : Nat → Nat} {J : Nat → Nat → Int32} (hp : xs_P M p) (hn : xs_Q M (fun i => p (31 + i))) (hl : nt_l M (p 29) = 4 ∧ nt_l M (p 30) = 4) (k : nt_ev X d 12 [.ref (p 28), .ref (p 31)] (me_w M J) o) : o = (none, me_w (lk M p) (x12F p J)) := by
  have k : nt_rn X d 12 (0, [(0, .ref (p 28)), (1, .ref (p 31))], [], me_w M J) o := k
  have k := ly_revb 2 (c' := (2, [(0, .ref (p 28)), (1, .ref (p 31))], [.ref (p 31), .ref (p 28)], me_w M J)) rfl k
  have k := lz_putr rfl (by decide) k
  have k : nt_rn X d 12 (5, [(0, .ref (p 28)), (1, .ref (p 31))], [], me_w (nt_sR M (p 28) 0 (some (p 31))) J) o := k
  have k := ly_revb 2 (c' := (7, [(0, .ref (p 28)), (1, .ref (p 31))], [.ref (p 31), .ref (p 28)], me_w (nt_sR M (p 28) 0 (some (p 31))) J)) rfl k
  have k := lz_get (a := (p 31)) (g := 600) (M := me_w (nt_sR M (p 28) 0 (some (p 31))) J) (v := .ref (p 32)) rfl (nt_gfR rfl ((me_Ro (hp.2.1 31 28 (by omega) (by omega) (by omega))).trans (hn.1 (0, 0, 1) (by decide)))) k
  have k := lz_putr rfl (by decide) k
  exact xt12F (lk_P hp) (lk_Q hp hn) (lk_V hl) k
theorem xr117 {X : nt_X} {d : Nat} {M : nt_M} {o : Option Value × nt_M} {p : Nat → Nat} {v1 : Int32} {J : Nat → Nat → Int32} (hp : xs_P M p) (hn : xs_Q M (fun i => p (31 + i))) (hl : nt_l M (p 29) = 4 ∧ nt_l M (p 30) = 4) (k : nt_ev X d 117 [.ref (p 16), .int v1] (me_w M J) o) : o.1 = some (.int (if J (p 31) 1 = 0 then (Int32.ofInt (-1)) else if v1 < 0 then (Int32.ofInt (-1)) else if v1 ≤ Int32.ofInt 1 then x117F p v1 (x12F p J) else (Int32.ofInt (-1)))) := by
  have k : nt_rn X d 117 (0, [(0, .ref (p 16)), (1, .int v1)], [], me_w M J) o := k
  have k := ly_revb 1 (c' := (1, [(0, .ref (p 16)), (1, .int v1)], [.ref (p 16)], me_w M J)) rfl k
  have k := lz_get (a := (p 16)) (g := 1007) (M := me_w M J) (v := .ref (p 31)) rfl (nt_gfR rfl (hp.1 (16, 7, 31) (by decide))) k
  have k := lz_get (a := (p 31)) (g := 601) (M := me_w M J) (v := .int (J (p 31) 1)) rfl (congrArg Value.int (rfl)) k
  have k := ly_revb 1 (c' := (if (J (p 31) 1) = 0 then 19 else 10, [(0, .ref (p 16)), (1, .int v1)], [], me_w M J)) rfl k
  by_cases h7 : (J (p 31) 1) = 0
  · rw [if_pos h7] at k
    rw [if_pos h7]
    have k := ly_revb 1 (c' := (20, [(0, .ref (p 16)), (1, .int v1)], [.int (Int32.ofInt (-1))], me_w M J)) rfl k
    have k := lz_ri rfl (by decide) k
    rw [k]
  · rw [if_neg h7] at k
    rw [if_neg h7]
    have k := ly_revb 2 (c' := (if v1 < 0 then 19 else 14, [(0, .ref (p 16)), (1, .int v1)], [], me_w M J)) rfl k
    by_cases h11 : v1 < 0
    · rw [if_pos h11] at k
      rw [if_pos h11]
      have k := ly_revb 1 (c' := (20, [(0, .ref (p 16)), (1, .int v1)], [.int (Int32.ofInt (-1))], me_w M J)) rfl k
      have k := lz_ri rfl (by decide) k
      rw [k]
    · rw [if_neg h11] at k
      rw [if_neg h11]
      have k := ly_revb 3 (c' := (if v1 ≤ (Int32.ofInt 1) then 21 else 19, [(0, .ref (p 16)), (1, .int v1)], [], me_w M J)) rfl k
      by_cases h16 : v1 ≤ (Int32.ofInt 1)
      · rw [if_pos h16] at k
        rw [if_pos h16]
        have k := ly_revb 1 (c' := (22, [(0, .ref (p 16)), (1, .int v1)], [.ref (p 16)], me_w M J)) rfl k
        have k := lz_get (a := (p 16)) (g := 1006) (M := me_w M J) (v := .ref (p 28)) rfl (nt_gfR rfl (hp.1 (16, 6, 28) (by decide))) k
        have k := ly_revb 1 (c' := (26, [(0, .ref (p 16)), (1, .int v1)], [.ref (p 16), .ref (p 28)], me_w M J)) rfl k
        have k := lz_get (a := (p 16)) (g := 1007) (M := me_w M J) (v := .ref (p 31)) rfl (nt_gfR rfl (hp.1 (16, 7, 31) (by decide))) k
        obtain ⟨d1, o1, ed, kc, k⟩ := lz_c (g := 12) (q := 1) (vs := [.ref (p 28), .ref (p 31)]) (rest := []) rfl rfl (by decide) (Or.inr (Or.inl ⟨_, rfl, rfl⟩)) rfl k
        have e1 := xr12 hp hn hl kc
        subst e1
        have k : nt_rn X _ 117 (32, [(0, .ref (p 16)), (1, .int v1)], [], me_w (lk M p) (x12F p J)) _ := k
        rw [xt117F (lk_P hp) (lk_Q hp hn) (lk_V hl) k]
      · rw [if_neg h16] at k
        rw [if_neg h16]
        have k := ly_revb 1 (c' := (20, [(0, .ref (p 16)), (1, .int v1)], [.int (Int32.ofInt (-1))], me_w M J)) rfl k
        have k := lz_ri rfl (by decide) k
        rw [k]
theorem z_le1 {x : Int32} : x ≤ Int32.ofInt 1 ↔ x.toInt ≤ 1 := by
  rw [Int32.le_iff_toInt_le, show (Int32.ofInt 1).toInt = 1 from by decide]
theorem zt_n {e : Nat → Int32} {i : Int32} {k : Nat} (h : 0 ≤ i.toInt) (hk : (e k).toInt = zn e k) (hm : zn e k ≤ 8) (h1 : ¬ (Int32.ofInt 1 <<< (e k &&& 31)) ≤ i) : ∃ n, n < 256 ∧ i = nI n := by
  have l := z_lt h1
  have ek : e k = nI (zn e k) := z_nI (by omega) (by omega)
  have s := (zt_sh (zn e k) (by omega)).1
  rw [← ek] at s
  have t := z_tn h
  exact ⟨i.toNatClampNeg, by omega, z_nI h (by omega)⟩
theorem z213_0l {p : Nat → Nat} {J : Nat → Nat → Int32} (hW : xr_W (J (p 4))) : ∀ (c : Nat) (i : Int32), 0 ≤ i.toInt → x213_4 p (Int32.ofInt 0) J c (Int32.ofInt 0) i = Int32.ofInt 0 := by
  have bb := zn_b hW
  intro c
  induction c with
  | zero => intro i h; rfl
  | succ c ih =>
    intro i h
    rw [x213_4]
    by_cases h1 : J (p 4) 3 ≤ i
    · rw [if_pos h1]
    · have x := zx bb.2.2.2.2.2.2.2 h h1
      have ei : nI i.toNatClampNeg = i := (z_nI h (by omega)).symm
      have e := zt_0 i.toNatClampNeg (by omega)
      rw [ei] at e
      have e : x209 (Int32.ofInt 0) i = 0 := e
      rw [if_neg h1, if_pos e, z_add0]
      exact ih _ (zi_i h1 h)
theorem zbest_l {p : Nat → Nat} {J Jr : Nat → Nat → Int32} {b : Int} {w : Int32} (hR : zR (fun i => p (31 + i)) J (Jr (p 4))) (hW : zW (Jr (p 4)) b) (hk : ∀ k, k < 4 → J (p 29) k = x210 p (Int32.ofInt (k : Int)) Jr) : ∀ (c : Nat) (best set : Int32), 0 ≤ set.toInt → (∃ n, n < 256 ∧ best = nI n) → x212_23 p w Jr c best set = (if w = 0 then x213 p (x19_6 p J c best (x213 p best Jr) set) Jr else x19_6 p J c best (x213 p best Jr) set) := by
  have bb := zn_b hW.w
  have o10 : ¬ Int32.ofInt 1 = 0 := by decide
  have o00 : Int32.ofInt 0 = 0 := rfl
  intro c
  induction c with
  | zero => intro best set h hb; rfl
  | succ c ih =>
    intro best set h hb
    rw [x212_23, x19_6, show J (p 32) 3 = Jr (p 4) 3 from zR_n hR (i := 3) (by omega)]
    by_cases h1 : Int32.ofInt 1 <<< (Jr (p 4) 3 &&& 31) ≤ set
    · simp only [-Int32.reduceOfInt, if_pos h1]
    · have hn := zt_n h bb.2.2.2.2.2.2.2 bb.2.2.2.1 h1
      have nx := zi_i h1 h
      have t1 : x236 best = x214 best := by
        obtain ⟨n, l, e⟩ := hb
        rw [e]
        exact zb_t n l
      have t2 : x236 set = x214 set := by
        obtain ⟨n, l, e⟩ := hn
        rw [e]
        exact zb_t n l
      have f : x13 p set J = Int32.ofInt (-1) ↔ ¬ 0 ≤ x206 p set Jr := by
        rw [zq_13 hR hW hk, Int32.lt_iff_toInt_lt, Int32.le_iff_toInt_le]
        omega
      have i0 := ih best (set + Int32.ofInt 1) nx hb
      have i1 := ih set (set + Int32.ofInt 1) nx hn
      simp only [-Int32.reduceOfInt, if_neg h1]
      rw [zq_20 hR hW.w]
      unfold x21
      rw [t1, t2]
      by_cases c2 : 0 ≤ x206 p set Jr
      · have g2 : ¬ x13 p set J = Int32.ofInt (-1) := fun x => f.mp x c2
        simp only [-Int32.reduceOfInt, if_pos c2, if_neg g2, ite_self]
        exact i0
      · have g2 : x13 p set J = Int32.ofInt (-1) := f.mpr c2
        simp only [-Int32.reduceOfInt, if_neg c2, if_pos g2]
        by_cases c1 : x213 p best Jr < x213 p set Jr
        · simp only [-Int32.reduceOfInt, if_pos c1, if_neg o10]
          exact i1
        · by_cases c3 : x213 p set Jr = x213 p best Jr
          · by_cases c4 : x214 best ≤ x214 set
            · simp only [-Int32.reduceOfInt, if_neg c1, if_pos c3, if_pos c4, if_pos o00]
              exact i0
            · simp only [-Int32.reduceOfInt, if_neg c1, if_pos c3, if_neg c4, if_neg o10]
              exact i1
          · simp only [-Int32.reduceOfInt, if_neg c1, if_neg c3, if_pos o00]
            exact i0
theorem zq_117 {p : Nat → Nat} {Jc Jr : Nat → Nat → Int32} {v1 : Int32} {b : Int} (hp : zpd p) (hR : zR (fun i => p (31 + i)) Jc (Jr (p 4))) (hW : zW (Jr (p 4)) b) : (if Jc (p 31) 1 = 0 then (Int32.ofInt (-1)) else if v1 < 0 then (Int32.ofInt (-1)) else if v1 ≤ Int32.ofInt 1 then x117F p v1 (x12F p Jc) else (Int32.ofInt (-1))) = x212 p v1 Jr := by
  have t : Jc (p 31) 1 = 0 ↔ x188 p Jr = 0 := z_told hR hW.w
  unfold x212
  by_cases c1 : Jc (p 31) 1 = 0
  · rw [if_pos c1, if_pos (t.mp c1)]
  · rw [if_neg c1, if_neg (fun x => c1 (t.mpr x)), z_145, z_j0, z_j1]
    by_cases c2 : v1.toInt < 0
    · rw [if_pos (z_i0.mpr c2), if_pos (show v1.toInt < 0 ∨ 1 < v1.toInt from Or.inl c2), if_pos (show Int32.ofInt 0 = 0 from rfl)]
    · rw [if_neg (fun h => c2 (z_i0.mp h))]
      by_cases c3 : 1 < v1.toInt
      · rw [if_neg (fun h => by have := z_le1.mp h; omega), if_pos (show v1.toInt < 0 ∨ 1 < v1.toInt from Or.inr c3), if_pos (show Int32.ofInt 0 = 0 from rfl)]
      · rw [if_pos (z_le1.mpr (by omega)), if_neg (show ¬ (v1.toInt < 0 ∨ 1 < v1.toInt) from by omega), if_neg (show ¬ Int32.ofInt 1 = 0 from by decide)]
        have RR := zlk_R hp hR
        have z := zbest_l (w := v1) RR hW (fun k hk => (zlk hp hR hW hk).1) ((Int32.ofInt 1 <<< (Jr (p 4) 3 &&& 31)).toNatClampNeg) (Int32.ofInt 0) (Int32.ofInt 1) (by decide) ⟨0, by omega, rfl⟩
        rw [show x213 p (Int32.ofInt 0) Jr = Int32.ofInt 0 from z213_0l hW.w _ _ (by decide)] at z
        rw [z]
        unfold x117F x19
        rw [show x12F p Jc (p 32) 3 = Jr (p 4) 3 from zR_n RR (i := 3) (by omega), zq_20 RR hW.w]
theorem zz_a_most {X : nt_X} {pl : Nat → Nat} {v v1 : Nat → Int} {M M1 M2 : nt_M} {y1 y2 a : Int32} (hB : ly_B pl v M) (hB1 : ly_B pl v1 M1) (e1 : nt_ev X 99 117 [.ref (pl 16), .int a] M (some (.int y1), M1)) (e2 : nt_ev X 99 212 [.ref (pl 0), .int a] M1 (some (.int y2), M2)) (hZ : zz_E pl M) : y1 = y2 := by
  have t1 : zz_T zz_ok pl M M1 := zz_g1 a (ko_w_n_most X) rfl (by decide +kernel) (by decide +kernel) (by decide) hB e1
  have r4 : nt_I M1 (pl 4) = nt_I M (pl 4) := t1 4 (by omega) rfl
  obtain ⟨hR, hW, hd, hz⟩ := hZ.1
  rw [← r4] at hR hW
  have y1e := xr117 (p := pl) (J := nt_I M) (zz_P hB) (zz_Qn hB) (zz_L hB) e1
  obtain ⟨y2e, _⟩ := lq_out (xt212 (p := pl) (J := nt_I M1) (zz_P hB1) e2)
  have y1e := Value.int.inj (Option.some.inj y1e)
  rw [y1e, y2e]
  exact zq_117 (zz_ne hB) hR hW
