/-! dealt: both sides -/
theorem xr122 {X : nt_X} {d : Nat} {M : nt_M} {o : Option Value × nt_M} {p : Nat → Nat} {v1 : Int32} {J : Nat → Nat → Int32} (hp : xs_P M p) (hn : xs_Q M (fun i => p (31 + i))) (hl : nt_l M (p 29) = 4 ∧ nt_l M (p 30) = 4) (k : nt_ev X d 122 [.ref (p 16), .int v1] (me_w M J) o) : o.1 = some (.int (if J (p 31) 1 = 0 then (Int32.ofInt (-1)) else if v1 < 0 then (Int32.ofInt (-1)) else if v1 ≤ Int32.ofInt 1 then x122F p v1 (x12F p J) else (Int32.ofInt (-1)))) := by
  have k : nt_rn X d 122 (0, [(0, .ref (p 16)), (1, .int v1)], [], me_w M J) o := k
  have k := ly_revb 1 (c' := (1, [(0, .ref (p 16)), (1, .int v1)], [.ref (p 16)], me_w M J)) rfl k
  have k := lz_get (a := (p 16)) (g := 1007) (M := me_w M J) (v := .ref (p 31)) rfl (nt_gfR rfl (hp.1 (16, 7, 31) (by decide))) k
  have k := lz_get (a := (p 31)) (g := 601) (M := me_w M J) (v := .int (J (p 31) 1)) rfl (congrArg Value.int (rfl)) k
  have k := ly_revb 1 (c' := (if (J (p 31) 1) = 0 then 19 else 10, [(0, .ref (p 16)), (1, .int v1)], [], me_w M J)) rfl k
  by_cases h7 : (J (p 31) 1) = 0
  · rw [if_pos h7] at k
    rw [if_pos h7]
    have k := ly_revb 1 (c' := (20, [(0, .ref (p 16)), (1, .int v1)], [.int (Int32.ofInt (-1))], me_w M J)) rfl k
    have k := lz_ri rfl (by decide) k
    rw [k]
  · rw [if_neg h7] at k
    rw [if_neg h7]
    have k := ly_revb 2 (c' := (if v1 < 0 then 19 else 14, [(0, .ref (p 16)), (1, .int v1)], [], me_w M J)) rfl k
    by_cases h11 : v1 < 0
    · rw [if_pos h11] at k
      rw [if_pos h11]
      have k := ly_revb 1 (c' := (20, [(0, .ref (p 16)), (1, .int v1)], [.int (Int32.ofInt (-1))], me_w M J)) rfl k
      have k := lz_ri rfl (by decide) k
      rw [k]
    · rw [if_neg h11] at k
      rw [if_neg h11]
      have k := ly_revb 3 (c' := (if v1 ≤ (Int32.ofInt 1) then 21 else 19, [(0, .ref (p 16)), (1, .int v1)], [], me_w M J)) rfl k
      by_cases h16 : v1 ≤ (Int32.ofInt 1)
      · rw [if_pos h16] at k
        rw [if_pos h16]
        have k := ly_revb 1 (c' := (22, [(0, .ref (p 16)), (1, .int v1)], [.ref (p 16)], me_w M J)) rfl k
        have k := lz_get (a := (p 16)) (g := 1006) (M := me_w M J) (v := .ref (p 28)) rfl (nt_gfR rfl (hp.1 (16, 6, 28) (by decide))) k
        have k := ly_revb 1 (c' := (26, [(0, .ref (p 16)), (1, .int v1)], [.ref (p 16), .ref (p 28)], me_w M J)) rfl k
        have k := lz_get (a := (p 16)) (g := 1007) (M := me_w M J) (v := .ref (p 31)) rfl (nt_gfR rfl (hp.1 (16, 7, 31) (by decide))) k
        obtain ⟨d1, o1, ed, kc, k⟩ := lz_c (g := 12) (q := 1) (vs := [.ref (p 28), .ref (p 31)]) (rest := []) rfl rfl (by decide) (Or.inr (Or.inl ⟨_, rfl, rfl⟩)) rfl k
        have e1 := xr12 hp hn hl kc
        subst e1
        have k : nt_rn X _ 122 (32, [(0, .ref (p 16)), (1, .int v1)], [], me_w (lk M p) (x12F p J)) _ := k
        rw [xt122F (lk_P hp) (lk_Q hp hn) (lk_V hl) k]
      · rw [if_neg h16] at k
        rw [if_neg h16]
        have k := ly_revb 1 (c' := (20, [(0, .ref (p 16)), (1, .int v1)], [.int (Int32.ofInt (-1))], me_w M J)) rfl k
        have k := lz_ri rfl (by decide) k
        rw [k]
theorem zt_and : ∀ n, n < 64 → ∀ l, l < 64 → (nI n &&& nI l = 0 ↔ ∀ j, j < 6 → x209 (nI n) (nI j) = 0 ∨ x209 (nI l) (nI j) = 0) := by decide +kernel
theorem zlo_l {p : Nat → Nat} {Jr : Nat → Nat → Int32} (hW : xr_W (Jr (p 4))) : ∀ (c : Nat) (i : Int32) (n : Nat), 0 ≤ i.toInt → (Jr (p 4) 1).toInt - i.toInt ≤ c → n < 64 → ∃ m, m < 64 ∧ x228_4 p Jr c (nI n) i = nI m ∧ ∀ j, j < 6 → x209 (nI m) (nI j) = (if i.toNatClampNeg ≤ j ∧ j < zn (Jr (p 4)) 1 ∧ Jr (p 4) (10 + 7 * j + 4) = Int32.ofInt 2 then Int32.ofInt 1 else x209 (nI n) (nI j)) := by
  have bb := zn_b hW
  intro c
  induction c with
  | zero =>
    intro i n h hc hn
    have t := z_tn h
    exact ⟨n, hn, rfl, fun j hj => by rw [if_neg (fun x => by omega)]⟩
  | succ c ih =>
    intro i n h hc hn
    have t := z_tn h
    rw [x228_4]
    by_cases h1 : Jr (p 4) 1 ≤ i
    · rw [if_pos h1]
      have h1 := z_ge.mp h1
      exact ⟨n, hn, rfl, fun j hj => by rw [if_neg (fun x => by omega)]⟩
    · have lt := z_lt h1
      have i1 : (i + Int32.ofInt 1).toNatClampNeg = i.toNatClampNeg + 1 := zx_i h1 h
      have ei : nI i.toNatClampNeg = i := (z_nI h (by omega)).symm
      have u4 : x169 p i (Int32.ofInt 4) Jr = Jr (p 4) (10 + 7 * i.toNatClampNeg + 4) := zx_s (k := 4) h (by omega) (by omega)
      rw [if_neg h1, u4]
      by_cases a : Jr (p 4) (10 + 7 * i.toNatClampNeg + 4) = Int32.ofInt 2
      · have l6 : i.toNatClampNeg < 6 := by omega
        obtain ⟨o1, o2⟩ := zb_or n hn i.toNatClampNeg l6
        rw [ei] at o1
        rw [if_pos a, o1]
        obtain ⟨m, m1, m2, m3⟩ := ih (i + Int32.ofInt 1) (n ||| (1 <<< i.toNatClampNeg)) (zi_i h1 h) (lx_dec h1 hc) o2
        refine ⟨m, m1, m2, fun j hj => ?_⟩
        rw [m3 j hj, i1, zt_bit n (by omega) i.toNatClampNeg (by omega) j (by omega)]
        by_cases ej : j = i.toNatClampNeg
        · rw [if_neg (fun x => by omega), if_pos ej, if_pos ⟨by omega, by omega, by rw [ej]; exact a⟩]
        · rw [if_neg ej]
          by_cases q : i.toNatClampNeg ≤ j ∧ j < zn (Jr (p 4)) 1 ∧ Jr (p 4) (10 + 7 * j + 4) = Int32.ofInt 2
          · rw [if_pos q, if_pos ⟨by omega, q.2⟩]
          · rw [if_neg q, if_neg (fun x => q ⟨by omega, x.2⟩)]
      · rw [if_neg a, z_or0]
        obtain ⟨m, m1, m2, m3⟩ := ih (i + Int32.ofInt 1) n (zi_i h1 h) (lx_dec h1 hc) hn
        refine ⟨m, m1, m2, fun j hj => ?_⟩
        rw [m3 j hj, i1]
        by_cases e : j = i.toNatClampNeg
        · rw [if_neg (fun x => by omega), if_neg (fun x => by rw [e] at x; exact a x.2.2)]
        · by_cases q : i.toNatClampNeg ≤ j ∧ j < zn (Jr (p 4)) 1 ∧ Jr (p 4) (10 + 7 * j + 4) = Int32.ofInt 2
          · rw [if_pos q, if_pos ⟨by omega, q.2⟩]
          · rw [if_neg q, if_neg (fun x => q ⟨by omega, x.2⟩)]
/-- one of a set is lost -/
theorem z225_l {p : Nat → Nat} {s : Int32} {J : Nat → Nat → Int32} (hW : xr_W (J (p 4))) : ∀ (c : Nat) (i : Int32), 0 ≤ i.toInt → (J (p 4) 1).toInt - i.toInt ≤ c → ((∀ j, i.toNatClampNeg ≤ j → j < zn (J (p 4)) 1 → ¬ x209 s (nI j) = 0 → ¬ J (p 4) (10 + 7 * j + 4) = Int32.ofInt 2) → x225_2 p s J c i = x225_40 p s J ((J (p 4) 0).toNatClampNeg) (Int32.ofInt 0)) ∧ (¬ (∀ j, i.toNatClampNeg ≤ j → j < zn (J (p 4)) 1 → ¬ x209 s (nI j) = 0 → ¬ J (p 4) (10 + 7 * j + 4) = Int32.ofInt 2) → x225_2 p s J c i = Int32.ofInt 0) := by
  have bb := zn_b hW
  intro c
  induction c with
  | zero =>
    intro i h hc
    have t := z_tn h
    exact ⟨fun _ => rfl, fun x => absurd (fun j j1 j2 => by omega) x⟩
  | succ c ih =>
    intro i h hc
    have t := z_tn h
    rw [x225_2]
    by_cases h1 : J (p 4) 1 ≤ i
    · rw [if_pos h1]
      have h1 := z_ge.mp h1
      exact ⟨fun _ => rfl, fun x => absurd (fun j j1 j2 => by omega) x⟩
    · have lt := z_lt h1
      have i1 : (i + Int32.ofInt 1).toNatClampNeg = i.toNatClampNeg + 1 := zx_i h1 h
      have ei : nI i.toNatClampNeg = i := (z_nI h (by omega)).symm
      have u4 : x169 p i (Int32.ofInt 4) J = J (p 4) (10 + 7 * i.toNatClampNeg + 4) := zx_s (k := 4) h (by omega) (by omega)
      have z := ih (i + Int32.ofInt 1) (zi_i h1 h) (lx_dec h1 hc)
      rw [i1] at z
      rw [if_neg h1, u4]
      by_cases g : ¬ x209 s i = 0 ∧ J (p 4) (10 + 7 * i.toNatClampNeg + 4) = Int32.ofInt 2
      · rw [if_neg g.1, if_pos g.2]
        exact ⟨fun x => absurd g.2 (x i.toNatClampNeg (Nat.le_refl _) (by omega) (by rw [ei]; exact g.1)), fun _ => rfl⟩
      · have iff : (∀ j, i.toNatClampNeg ≤ j → j < zn (J (p 4)) 1 → ¬ x209 s (nI j) = 0 → ¬ J (p 4) (10 + 7 * j + 4) = Int32.ofInt 2) ↔ (∀ j, i.toNatClampNeg + 1 ≤ j → j < zn (J (p 4)) 1 → ¬ x209 s (nI j) = 0 → ¬ J (p 4) (10 + 7 * j + 4) = Int32.ofInt 2) := by
          refine ⟨fun x j j1 => x j (by omega), fun x j j1 j2 j3 j4 => ?_⟩
          by_cases e : j = i.toNatClampNeg
          · rw [e] at j3 j4
            rw [ei] at j3
            exact g ⟨j3, j4⟩
          · exact x j (by omega) j2 j3 j4
        rw [iff]
        by_cases a : x209 s i = 0
        · rw [if_pos a]
          exact z
        · rw [if_neg a, if_neg (fun y => g ⟨a, y⟩)]
          exact z
theorem z_sub00 {x : Int32} : x - Int32.ofInt 0 = x := Int32.sub_zero x
theorem zq_26i {p : Nat → Nat} {J Jr : Nat → Nat → Int32} {s k : Int32} (hR : zR (fun i => p (31 + i)) J (Jr (p 4))) (hW : xr_W (Jr (p 4))) (hk : 0 ≤ k.toInt ∧ k.toInt < (Jr (p 4) 0).toInt) : ∀ (c : Nat) (a i : Int32), 0 ≤ i.toInt → x26_23 p s k J c a i = x225_103 p s k Jr c a i := by
  intro c
  induction c with
  | zero => intro a i h; rfl
  | succ c ih =>
    intro a i h
    rw [x26_23, x225_103, show J (p 32) 1 = Jr (p 4) 1 from zR_n hR (i := 1) (by omega)]
    by_cases h1 : Jr (p 4) 1 ≤ i
    · rw [if_pos h1, if_pos h1]
    · obtain ⟨e1, e2⟩ := zq_87 hR hW ⟨h, z_lt h1⟩ hk
      rw [if_neg h1, if_neg h1, z_has, e1, e2, ih _ _ (zi_i h1 h), ih _ _ (zi_i h1 h)]
theorem zq_26l {p : Nat → Nat} {J Jr : Nat → Nat → Int32} {s : Int32} (hR : zR (fun i => p (31 + i)) J (Jr (p 4))) (hW : xr_W (Jr (p 4))) (hk : ∀ k, k < 4 → ∀ w, J (p 30) k = x225_55 p w (Int32.ofInt (k : Int)) Jr ((Jr (p 4) 2).toNatClampNeg) (Int32.ofInt 0) (Int32.ofInt 0)) : ∀ (c : Nat) (k : Int32), 0 ≤ k.toInt → x26_2 p s J c k = x225_40 p s Jr c k := by
  have bb := zn_b hW
  intro c
  induction c with
  | zero => intro k h; rfl
  | succ c ih =>
    intro k h
    rw [x26_2, x225_40, show J (p 32) 0 = Jr (p 4) 0 from zR_n hR (i := 0) (by omega), show J (p 32) 1 = Jr (p 4) 1 from zR_n hR (i := 1) (by omega)]
    by_cases h1 : Jr (p 4) 0 ≤ k
    · rw [if_pos h1, if_pos h1]
    · have lt := z_lt h1
      have t := z_tn h
      have e := hk k.toNatClampNeg (by omega) s
      rw [z_oi h (by omega)] at e
      rw [if_neg h1, if_neg h1, e, zq_26i hR hW ⟨h, lt⟩ _ _ _ (by decide), ih _ (zi_i h1 h)]
theorem z224_0l {p : Nat → Nat} {J : Nat → Nat → Int32} {b : Int} (hW : zW (J (p 4)) b) : ∀ (c : Nat) (i : Int32), 0 ≤ i.toInt → x224_4 p (Int32.ofInt 0) J c (Int32.ofInt 0) i = Int32.ofInt 0 := by
  have bb := zn_b hW.w
  intro c
  induction c with
  | zero => intro i h; rfl
  | succ c ih =>
    intro i h
    rw [x224_4]
    by_cases h1 : J (p 4) 3 ≤ i
    · rw [if_pos h1]
    · have x := zx bb.2.2.2.2.2.2.2 h h1
      have vo := hW.a.vo _ x.1
      have u0 : x180 p i (Int32.ofInt 0) J = J (p 4) (172 + 5 * i.toNatClampNeg + 0) := zx_v (k := 0) h (by omega) (by omega)
      obtain ⟨S, eS⟩ : ∃ S, J (p 4) (172 + 5 * i.toNatClampNeg + 0) = S := ⟨_, rfl⟩
      rw [eS] at u0 vo
      have ts := z_tn vo.1
      have e8 : nI S.toNatClampNeg = S := (z_nI vo.1 (by omega)).symm
      have e := zt_0 S.toNatClampNeg (by omega)
      rw [e8] at e
      have e : x209 (Int32.ofInt 0) S = 0 := e
      rw [if_neg h1, u0, if_pos e, z_add0]
      exact ih _ (zi_i h1 h)
theorem zdealt_l {p : Nat → Nat} {J Jr : Nat → Nat → Int32} {b : Int} {w : Int32} (hR : zR (fun i => p (31 + i)) J (Jr (p 4))) (hW : zW (Jr (p 4)) b) (hk : ∀ k, k < 4 → ∀ w, J (p 30) k = x225_55 p w (Int32.ofInt (k : Int)) Jr ((Jr (p 4) 2).toNatClampNeg) (Int32.ofInt 0) (Int32.ofInt 0)) : ∀ (c : Nat) (best set : Int32), 0 ≤ set.toInt → (∃ n, n < 256 ∧ best = nI n) → x223_23 p w Jr c best set = (if w = 0 then x224 p (x24_15 p (x228 p Jr) J c best (x224 p best Jr) set) Jr else x24_15 p (x228 p Jr) J c best (x224 p best Jr) set) := by
  have bb := zn_b hW.w
  have o10 : ¬ Int32.ofInt 1 = 0 := by decide
  have o00 : Int32.ofInt 0 = 0 := rfl
  have n00 : (Int32.ofInt 0).toNatClampNeg = 0 := rfl
  have z00 : (Int32.ofInt 0).toInt = 0 := by decide
  obtain ⟨l, l64, le, lb⟩ := zlo_l hW.w ((Jr (p 4) 1).toNatClampNeg) (Int32.ofInt 0) 0 (by decide) (by rw [zn_t, z00]; omega) (by omega)
  have le : x228 p Jr = nI l := le
  intro c
  induction c with
  | zero => intro best set h hb; rfl
  | succ c ih =>
    intro best set h hb
    rw [x223_23, x24_15, show J (p 32) 1 = Jr (p 4) 1 from zR_n hR (i := 1) (by omega)]
    by_cases h1 : Int32.ofInt 1 <<< (Jr (p 4) 1 &&& 31) ≤ set
    · simp only [-Int32.reduceOfInt, if_pos h1]
    · have hn := zt_n h bb.2.2.2.2.2.1 (by omega) h1
      have nx := zi_i h1 h
      have t1 : x236 best = x214 best := by
        obtain ⟨n, l, e⟩ := hb
        rw [e]
        exact zb_t n l
      have t2 : x236 set = x214 set := by
        obtain ⟨n, l, e⟩ := hn
        rw [e]
        exact zb_t n l
      have s64 : ∃ n, n < 64 ∧ set = nI n := by
        have ls := z_lt h1
        have ek : Jr (p 4) 1 = nI (zn (Jr (p 4)) 1) := z_nI (by omega) (by omega)
        have s := (zt_sh (zn (Jr (p 4)) 1) (by omega)).2 (by omega)
        rw [← ek] at s
        have t := z_tn h
        exact ⟨set.toNatClampNeg, by omega, z_nI h (by omega)⟩
      obtain ⟨n, n64, en⟩ := s64
      have L := z225_l (s := set) hW.w ((Jr (p 4) 1).toNatClampNeg) (Int32.ofInt 0) (by decide) (by rw [zn_t, z00]; omega)
      rw [n00] at L
      have al : set &&& x228 p Jr = 0 ↔ (∀ j, 0 ≤ j → j < zn (Jr (p 4)) 1 → ¬ x209 set (nI j) = 0 → ¬ Jr (p 4) (10 + 7 * j + 4) = Int32.ofInt 2) := by
        rw [le, en, zt_and n n64 l l64]
        constructor
        · intro x j _ j2 j3 j4
          have q := lb j (by omega)
          rw [n00, if_pos ⟨by omega, j2, j4⟩] at q
          rcases x j (by omega) with y | y
          · exact j3 y
          · rw [q] at y
            exact o10 y
        · intro x j j6
          by_cases a : x209 (nI n) (nI j) = 0
          · exact Or.inl a
          · refine Or.inr ?_
            rw [lb j j6, n00, if_neg (fun y => x j (by omega) y.2.1 a y.2.2)]
            exact zt_0 j (by omega)
      have c26 : x26 p set J = x225_40 p set Jr ((Jr (p 4) 0).toNatClampNeg) (Int32.ofInt 0) := by
        unfold x26
        rw [show J (p 32) 0 = Jr (p 4) 0 from zR_n hR (i := 0) (by omega)]
        exact zq_26l hR hW.w hk _ _ (by decide)
      have i0 := ih best (set + Int32.ofInt 1) nx hb
      have i1 := ih set (set + Int32.ofInt 1) nx hn
      simp only [-Int32.reduceOfInt, if_neg h1]
      rw [zq_25 hR hW.w]
      unfold x21
      rw [t1, t2]
      by_cases g0 : set &&& x228 p Jr = 0
      · have e225 : x225 p set Jr = x26 p set J := (L.1 (al.mp g0)).trans c26.symm
        simp only [-Int32.reduceOfInt, if_pos g0]
        rw [e225]
        by_cases c2 : x26 p set J = 0
        · simp only [-Int32.reduceOfInt, if_pos c2, ite_self]
          exact i0
        · simp only [-Int32.reduceOfInt, if_neg c2]
          by_cases c1 : x224 p best Jr < x224 p set Jr
          · simp only [-Int32.reduceOfInt, if_pos c1, if_neg o10]
            exact i1
          · by_cases c3 : x224 p set Jr = x224 p best Jr
            · by_cases c4 : x214 best ≤ x214 set
              · simp only [-Int32.reduceOfInt, if_neg c1, if_pos c3, if_pos c4, if_pos o00]
                exact i0
              · simp only [-Int32.reduceOfInt, if_neg c1, if_pos c3, if_neg c4, if_neg o10]
                exact i1
            · simp only [-Int32.reduceOfInt, if_neg c1, if_neg c3, if_pos o00]
              exact i0
      · have e225 : x225 p set Jr = 0 := L.2 (fun y => g0 (al.mpr y))
        simp only [-Int32.reduceOfInt, if_neg g0, if_pos e225, ite_self]
        exact i0
theorem zq_122 {p : Nat → Nat} {Jc Jr : Nat → Nat → Int32} {v1 : Int32} {b : Int} (hp : zpd p) (hR : zR (fun i => p (31 + i)) Jc (Jr (p 4))) (hW : zW (Jr (p 4)) b) : (if Jc (p 31) 1 = 0 then (Int32.ofInt (-1)) else if v1 < 0 then (Int32.ofInt (-1)) else if v1 ≤ Int32.ofInt 1 then x122F p v1 (x12F p Jc) else (Int32.ofInt (-1))) = x223 p v1 Jr := by
  have t : Jc (p 31) 1 = 0 ↔ x188 p Jr = 0 := z_told hR hW.w
  unfold x223
  by_cases c1 : Jc (p 31) 1 = 0
  · rw [if_pos c1, if_pos (t.mp c1)]
  · rw [if_neg c1, if_neg (fun x => c1 (t.mpr x)), z_145, z_j0, z_j1]
    by_cases c2 : v1.toInt < 0
    · rw [if_pos (z_i0.mpr c2), if_pos (show v1.toInt < 0 ∨ 1 < v1.toInt from Or.inl c2), if_pos (show Int32.ofInt 0 = 0 from rfl)]
    · rw [if_neg (fun h => c2 (z_i0.mp h))]
      by_cases c3 : 1 < v1.toInt
      · rw [if_neg (fun h => by have := z_le1.mp h; omega), if_pos (show v1.toInt < 0 ∨ 1 < v1.toInt from Or.inr c3), if_pos (show Int32.ofInt 0 = 0 from rfl)]
      · rw [if_pos (z_le1.mpr (by omega)), if_neg (show ¬ (v1.toInt < 0 ∨ 1 < v1.toInt) from by omega), if_neg (show ¬ Int32.ofInt 1 = 0 from by decide)]
        have RR := zlk_R hp hR
        have z := zdealt_l (w := v1) RR hW (fun k hk => (zlk hp hR hW hk).2) ((Int32.ofInt 1 <<< (Jr (p 4) 1 &&& 31)).toNatClampNeg) (Int32.ofInt 0) (Int32.ofInt 1) (by decide) ⟨0, by omega, rfl⟩
        rw [show x224 p (Int32.ofInt 0) Jr = Int32.ofInt 0 from z224_0l hW _ _ (by decide)] at z
        rw [z]
        unfold x122F x24
        rw [show x12F p Jc (p 32) 1 = Jr (p 4) 1 from zR_n RR (i := 1) (by omega), zq_25 RR hW.w, zq_79 RR hW.w]
theorem zz_a_dealt {X : nt_X} {pl : Nat → Nat} {v v1 : Nat → Int} {M M1 M2 : nt_M} {y1 y2 a : Int32} (hB : ly_B pl v M) (hB1 : ly_B pl v1 M1) (e1 : nt_ev X 99 122 [.ref (pl 16), .int a] M (some (.int y1), M1)) (e2 : nt_ev X 99 223 [.ref (pl 0), .int a] M1 (some (.int y2), M2)) (hZ : zz_E pl M) : y1 = y2 := by
  have t1 : zz_T zz_ok pl M M1 := zz_g1 a (ko_w_n_dealt X) rfl (by decide +kernel) (by decide +kernel) (by decide) hB e1
  have r4 : nt_I M1 (pl 4) = nt_I M (pl 4) := t1 4 (by omega) rfl
  obtain ⟨hR, hW, hd, hz⟩ := hZ.1
  rw [← r4] at hR hW
  have y1e := xr122 (p := pl) (J := nt_I M) (zz_P hB) (zz_Qn hB) (zz_L hB) e1
  obtain ⟨y2e, _⟩ := lq_out (xt223 (p := pl) (J := nt_I M1) (zz_P hB1) e2)
  have y1e := Value.int.inj (Option.some.inj y1e)
  rw [y1e, y2e]
  exact zq_122 (zz_ne hB) hR hW
