/-! rot, loss, a plank moved: both sides -/
theorem z_nar : vp_nar .boolean (Int32.ofInt 1) = Int32.ofInt 1 := by decide
theorem zx_3 {a m k : Nat} {i : Int32} (ha : a < 1000) (hm : m < 1000) (hk : k < 1000) (h0 : 0 ≤ i.toInt) (h1 : i.toInt ≤ 1000) : ((Int32.ofInt (a : Int) + Int32.ofInt (m : Int) * i) + Int32.ofInt (k : Int)).toNatClampNeg = a + m * i.toNatClampNeg + k := xi_3 ha hm hk h0 h1
theorem zx_p1 {i : Int32} (h0 : 0 ≤ i.toInt) (h1 : i.toInt ≤ 1000) : ((Int32.ofInt 52 + Int32.ofInt 5 * i) + Int32.ofInt 1).toNatClampNeg = 52 + 5 * i.toNatClampNeg + 1 := zx_3 (a := 52) (m := 5) (k := 1) (by omega) (by omega) (by omega) h0 h1
theorem zx_p3 {i : Int32} (h0 : 0 ≤ i.toInt) (h1 : i.toInt ≤ 1000) : ((Int32.ofInt 52 + Int32.ofInt 5 * i) + Int32.ofInt 3).toNatClampNeg = 52 + 5 * i.toNatClampNeg + 3 := zx_3 (a := 52) (m := 5) (k := 3) (by omega) (by omega) (by omega) h0 h1
theorem zx_p4 {i : Int32} (h0 : 0 ≤ i.toInt) (h1 : i.toInt ≤ 1000) : ((Int32.ofInt 52 + Int32.ofInt 5 * i) + Int32.ofInt 4).toNatClampNeg = 52 + 5 * i.toNatClampNeg + 4 := zx_3 (a := 52) (m := 5) (k := 4) (by omega) (by omega) (by omega) h0 h1
theorem zx_s4 {i : Int32} (h0 : 0 ≤ i.toInt) (h1 : i.toInt ≤ 1000) : ((Int32.ofInt 10 + Int32.ofInt 7 * i) + Int32.ofInt 4).toNatClampNeg = 10 + 7 * i.toNatClampNeg + 4 := zx_3 (a := 10) (m := 7) (k := 4) (by omega) (by omega) (by omega) h0 h1
theorem zx_s5 {i : Int32} (h0 : 0 ≤ i.toInt) (h1 : i.toInt ≤ 1000) : ((Int32.ofInt 10 + Int32.ofInt 7 * i) + Int32.ofInt 5).toNatClampNeg = 10 + 7 * i.toNatClampNeg + 5 := zx_3 (a := 10) (m := 7) (k := 5) (by omega) (by omega) (by omega) h0 h1
theorem zx_s6 {i : Int32} (h0 : 0 ≤ i.toInt) (h1 : i.toInt ≤ 1000) : ((Int32.ofInt 10 + Int32.ofInt 7 * i) + Int32.ofInt 6).toNatClampNeg = 10 + 7 * i.toNatClampNeg + 6 := zx_3 (a := 10) (m := 7) (k := 6) (by omega) (by omega) (by omega) h0 h1
theorem zx_v4 {i : Int32} (h0 : 0 ≤ i.toInt) (h1 : i.toInt ≤ 1000) : ((Int32.ofInt 172 + Int32.ofInt 5 * i) + Int32.ofInt 4).toNatClampNeg = 172 + 5 * i.toNatClampNeg + 4 := zx_3 (a := 172) (m := 5) (k := 4) (by omega) (by omega) (by omega) h0 h1
theorem zx_i {e : Nat → Int32} {k : Nat} {i : Int32} (h1 : ¬ e k ≤ i) (h0 : 0 ≤ i.toInt) : (i + Int32.ofInt 1).toNatClampNeg = i.toNatClampNeg + 1 := by
  rw [zn_t, zn_t, lx_inc h1]
  omega
/-- the loop that marks a lost ship's planks -/
theorem zlo_R {q p : Nat → Nat} {s : Int32} (hq : zq q) : ∀ (c : Nat) (i : Int32) (Jc Jr : Nat → Nat → Int32), zR q Jc (Jr (p 4)) → xr_W (Jr (p 4)) → 0 ≤ i.toInt → zR q (x10_38 q s c i Jc) (x202_145 p s c i Jr (p 4)) := by
  intro c
  induction c with
  | zero => intro i Jc Jr hR hW h; exact hR
  | succ c ih =>
    intro i Jc Jr hR hW h
    rw [x10_38, x202_145, zR_n hR (by omega)]
    by_cases h1 : Jr (p 4) 2 ≤ i
    · rw [if_pos h1, if_pos h1]
      exact hR
    · rw [if_neg h1, if_neg h1]
      obtain ⟨hn, hi, c0, c1, c2, c3, c4, r0, r1, r2, r3, r4⟩ := zP hR hW h h1
      have b := zn_b hW
      rw [c3, r3]
      by_cases h3 : Jr (p 4) (52 + 5 * i.toNatClampNeg + 3) = s
      · rw [if_pos h3, if_pos h3]
        have hl : i.toNatClampNeg < 24 := by omega
        refine ih _ _ _ ?_ ?_ (zi_i h1 h)
        · rw [zx_p4 h (by omega), zu_r, z_nar]
          exact zR_up hq hR (by omega) (by omega) (zc_p4 _ hl)
        · rw [zx_p4 h (by omega)]
          exact xr_up hW (xr_any (xr_bp hl (by omega) (by omega) (by omega)))
      · rw [if_neg h3, if_neg h3]
        exact ih _ _ _ hR hW (zi_i h1 h)
theorem zlo_f {p : Nat → Nat} {s : Int32} : ∀ (c : Nat) (i : Int32) (J : Nat → Nat → Int32), xr_W (J (p 4)) → 0 ≤ i.toInt → (J (p 4) 2).toInt - i.toInt ≤ c → (∀ n, i.toNatClampNeg ≤ n → n < zn (J (p 4)) 2 → x202_145 p s c i J (p 4) (52 + 5 * n + 4) = if J (p 4) (52 + 5 * n + 3) = s then 1 else J (p 4) (52 + 5 * n + 4)) ∧ (∀ j, ¬ (52 + 5 * i.toNatClampNeg ≤ j ∧ j < 172 ∧ (j - 52) % 5 = 4) → x202_145 p s c i J (p 4) j = J (p 4) j) := by
  intro c
  induction c with
  | zero =>
    intro i J hW h hc
    refine ⟨fun n a b => ?_, fun j hj => rfl⟩
    have bb := zn_b hW
    have y : i.toNatClampNeg = i.toInt.toNat := rfl
    omega
  | succ c ih =>
    intro i J hW h hc
    have bb := zn_b hW
    have y : i.toNatClampNeg = i.toInt.toNat := rfl
    rw [x202_145]
    by_cases h1 : J (p 4) 2 ≤ i
    · rw [if_pos h1]
      have h2 := z_ge.mp h1
      refine ⟨fun n a b => ?_, fun j hj => rfl⟩
      omega
    · rw [if_neg h1]
      have x := zx bb.2.2.2.2.2.2.1 h h1
      have hl : i.toNatClampNeg < 24 := by omega
      rw [show x173 p i (Int32.ofInt 3) J = J (p 4) (52 + 5 * i.toNatClampNeg + 3) from zx_p (k := 3) h (by omega) (by omega)]
      have y1 := zx_i h1 h
      by_cases h3 : J (p 4) (52 + 5 * i.toNatClampNeg + 3) = s
      · rw [if_pos h3, zx_p4 h (by omega)]
        have z := ih (i + Int32.ofInt 1) (nt_u J (p 4) (52 + 5 * i.toNatClampNeg + 4) (Int32.ofInt 1)) (xr_up hW (xr_any (xr_bp hl (by omega) (by omega) (by omega)))) (zi_i h1 h) (by rw [me_uk (by omega)]; exact lx_dec h1 hc)
        rw [y1] at z
        refine ⟨fun n a b => ?_, fun j hj => ?_⟩
        · by_cases e : n = i.toNatClampNeg
          · rw [e, if_pos h3, z.2 _ (by omega), me_us]
            rfl
          · rw [z.1 n (by omega) (by unfold zn; rw [me_uk (by omega)]; exact b), me_uk (by omega), me_uk (by omega)]
        · rw [z.2 j (by omega), me_uk (by omega)]
      · rw [if_neg h3]
        have z := ih (i + Int32.ofInt 1) J hW (zi_i h1 h) (lx_dec h1 hc)
        rw [y1] at z
        refine ⟨fun n a b => ?_, fun j hj => ?_⟩
        · by_cases e : n = i.toNatClampNeg
          · rw [e, if_neg h3, z.2 _ (by omega)]
          · rw [z.1 n (by omega) b]
        · rw [z.2 j (by omega)]
theorem zu_c {e : Nat → Int32} {i j : Nat} {a b : Int32} (h : i ≠ j) : zu (zu e i a) j b = zu (zu e j b) i a := by
  funext k
  show (if k = j then b else if k = i then a else e k) = (if k = i then a else if k = j then b else e k)
  by_cases c : k = j
  · rw [if_pos c, if_neg (by omega), if_pos c]
  · rw [if_neg c, if_neg c]
theorem z_i3 {n : Nat} {x : Int32} (h : x.toInt = n) : x.toNatClampNeg = n := by
  rw [zn_t]
  omega
/-- a ship is lost -/
theorem zlose {q p : Nat → Nat} {s : Int32} {b : Int} {Jc Jr : Nat → Nat → Int32} (hq : zq q) (hR : zR q Jc (Jr (p 4))) (hW : zW (Jr (p 4)) b) (hs : 0 ≤ s.toInt ∧ s.toInt < (Jr (p 4) 1).toInt) (h1 : Jr (p 4) (10 + 7 * s.toNatClampNeg + 4) = 1) :
    zR q (x10 q s Jc) ((x202_145 p s (((nt_u (nt_u (nt_u Jr (p 4) ((((Int32.ofInt 10) + ((Int32.ofInt 7) * s)) + (Int32.ofInt 4)).toNatClampNeg) (Int32.ofInt 2)) (p 4) ((((Int32.ofInt 10) + ((Int32.ofInt 7) * s)) + (Int32.ofInt 5)).toNatClampNeg) (Int32.ofInt (-1))) (p 4) ((((Int32.ofInt 172) + ((Int32.ofInt 5) * (x169 p s (Int32.ofInt 5) Jr))) + (Int32.ofInt 4)).toNatClampNeg) (Int32.ofInt 3)) (p 4) 2).toNatClampNeg) (Int32.ofInt 0) (nt_u (nt_u (nt_u Jr (p 4) ((((Int32.ofInt 10) + ((Int32.ofInt 7) * s)) + (Int32.ofInt 4)).toNatClampNeg) (Int32.ofInt 2)) (p 4) ((((Int32.ofInt 10) + ((Int32.ofInt 7) * s)) + (Int32.ofInt 5)).toNatClampNeg) (Int32.ofInt (-1))) (p 4) ((((Int32.ofInt 172) + ((Int32.ofInt 5) * (x169 p s (Int32.ofInt 5) Jr))) + (Int32.ofInt 4)).toNatClampNeg) (Int32.ofInt 3))) (p 4)) ∧
    zW ((x202_145 p s (((nt_u (nt_u (nt_u Jr (p 4) ((((Int32.ofInt 10) + ((Int32.ofInt 7) * s)) + (Int32.ofInt 4)).toNatClampNeg) (Int32.ofInt 2)) (p 4) ((((Int32.ofInt 10) + ((Int32.ofInt 7) * s)) + (Int32.ofInt 5)).toNatClampNeg) (Int32.ofInt (-1))) (p 4) ((((Int32.ofInt 172) + ((Int32.ofInt 5) * (x169 p s (Int32.ofInt 5) Jr))) + (Int32.ofInt 4)).toNatClampNeg) (Int32.ofInt 3)) (p 4) 2).toNatClampNeg) (Int32.ofInt 0) (nt_u (nt_u (nt_u Jr (p 4) ((((Int32.ofInt 10) + ((Int32.ofInt 7) * s)) + (Int32.ofInt 4)).toNatClampNeg) (Int32.ofInt 2)) (p 4) ((((Int32.ofInt 10) + ((Int32.ofInt 7) * s)) + (Int32.ofInt 5)).toNatClampNeg) (Int32.ofInt (-1))) (p 4) ((((Int32.ofInt 172) + ((Int32.ofInt 5) * (x169 p s (Int32.ofInt 5) Jr))) + (Int32.ofInt 4)).toNatClampNeg) (Int32.ofInt 3))) (p 4)) b := by
  have bb := zn_b hW.w
  obtain ⟨sn, si, t4, t5, t6, u4, u5, u6⟩ := zS hR hW.w hs.1 hs.2
  obtain ⟨v, hv, ev, es, ec, eb⟩ := hW.c.on _ sn h1
  have nv : (Jr (p 4) (10 + 7 * s.toNatClampNeg + 5)).toNatClampNeg = v := z_i3 ev
  have e71 : ¬ x71 q (Jc (q 12) s.toNatClampNeg) Jc = 0 := by
    rw [t5]
    unfold x71
    rw [if_neg (fun c => by have := z_le0.mp c; omega), zR_n hR (by omega), if_neg (fun c => by have := z_ge.mp c; omega)]
    decide
  unfold x10
  rw [if_neg e71, t5, u5, nv, zx_s4 hs.1 (by omega), zx_s5 hs.1 (by omega), zx_v4 (by omega) (by omega), nv]
  have hR2 : zR q (nt_u (nt_u (nt_u Jc (q 16) v (Int32.ofInt 3)) (q 10) s.toNatClampNeg (Int32.ofInt 2)) (q 12) s.toNatClampNeg (Int32.ofInt (-1))) (nt_u (nt_u (nt_u Jr (p 4) (10 + 7 * s.toNatClampNeg + 4) (Int32.ofInt 2)) (p 4) (10 + 7 * s.toNatClampNeg + 5) (Int32.ofInt (-1))) (p 4) (172 + 5 * v + 4) (Int32.ofInt 3) (p 4)) := by
    rw [zu_r, zu_r, zu_r, zu_c (by omega), zu_c (i := 10 + 7 * s.toNatClampNeg + 4) (j := 172 + 5 * v + 4) (by omega)]
    exact zR_up hq (zR_up hq (zR_up hq hR (by omega) (by omega) (zc_v4 _ (by omega))) (by omega) (by omega) (zc_s4 _ (by omega))) (by omega) (by omega) (zc_s5 _ (by omega))
  have hW2 : xr_W (nt_u (nt_u (nt_u Jr (p 4) (10 + 7 * s.toNatClampNeg + 4) (Int32.ofInt 2)) (p 4) (10 + 7 * s.toNatClampNeg + 5) (Int32.ofInt (-1))) (p 4) (172 + 5 * v + 4) (Int32.ofInt 3) (p 4)) :=
    xr_up (xr_up (xr_up hW.w (xr_any (xr_bs (by omega) (by omega) (by omega)))) (by rw [xr_b5 (by omega)]; decide)) (xr_any (xr_bv (by omega) (by omega) (by omega)))
  refine ⟨?_, ?_⟩
  · have e2 := zR_n hR2 (i := 2) (by omega)
    rw [e2]
    exact zlo_R hq _ _ _ _ hR2 hW2 (by decide)
  · have z := zlo_f (p := p) (s := s) (((nt_u (nt_u (nt_u Jr (p 4) (10 + 7 * s.toNatClampNeg + 4) (Int32.ofInt 2)) (p 4) (10 + 7 * s.toNatClampNeg + 5) (Int32.ofInt (-1))) (p 4) (172 + 5 * v + 4) (Int32.ofInt 3)) (p 4) 2).toNatClampNeg) (Int32.ofInt 0) _ hW2 (by decide) (lx_beg (by decide))
    rw [show (Int32.ofInt 0).toNatClampNeg = 0 from rfl] at z
    refine zW_lose hW sn h1 hv ev (xw_202b ⟨hW2, fun _ _ => rfl⟩ (by decide)).1 ?_ ?_ ?_ ?_ ?_
    · rw [z.2 _ (by omega), me_uk (by omega), me_uk (by omega), me_us]
      rfl
    · rw [z.2 _ (by omega), me_uk (by omega), me_us]
    · rw [z.2 _ (by omega), me_us]
      rfl
    · intro m hm
      rw [z.1 m (by omega) (by unfold zn; rw [me_uk (by omega), me_uk (by omega), me_uk (by omega)]; exact hm), me_uk (by omega), me_uk (by omega), me_uk (by omega), me_uk (by omega), me_uk (by omega), me_uk (by omega)]
      by_cases c : Jr (p 4) (52 + 5 * m + 3) = s
      · rw [if_pos c, if_pos (by rw [c]; exact si)]
      · rw [if_neg c, if_neg]
        intro d
        apply c
        apply Int32.toInt_inj.mp
        omega
    · intro j a b c d
      rw [z.2 j (by omega), me_uk c, me_uk b, me_uk a]
/-- a plank moved -/
theorem zput {q p : Nat → Nat} {i s : Int32} {b : Int} {Jc Jr : Nat → Nat → Int32} (hq : zq q) (hR : zR q Jc (Jr (p 4))) (hW : zW (Jr (p 4)) b) (h : 0 ≤ i.toInt) (h1 : ¬ Jr (p 4) 2 ≤ i) (hs : -1 ≤ s.toInt ∧ s.toInt < (Jr (p 4) 1).toInt) (hsl : 0 ≤ s.toInt → Jr (p 4) (10 + 7 * s.toNatClampNeg + 4) ≠ 2) (hl : Jr (p 4) (52 + 5 * i.toNatClampNeg + 4) = 0) (h6 : (Jr (p 4) 6).toInt < (Jr (p 4) 5).toInt) : zR q (x74 q i s Jc) (x185 p i s Jr (p 4)) ∧ zW (x185 p i s Jr (p 4)) b := by
  have bb := zn_b hW.w
  obtain ⟨hn, hi, c0, c1, c2, c3, c4, r0, r1, r2, r3, r4⟩ := zP hR hW.w h h1
  have hl24 : i.toNatClampNeg < 24 := by omega
  have e6 : (Jr (p 4) 6 + Int32.ofInt 1).toInt = (Jr (p 4) 6).toInt + 1 := lx_inc (b := Jr (p 4) 5) (fun c => by have := z_ge.mp c; omega)
  have er : x185 p i s Jr (p 4) = zu (zu (zu (Jr (p 4)) (52 + 5 * i.toNatClampNeg + 3) s) 6 (Jr (p 4) 6 + Int32.ofInt 1)) 8 (Jr (p 4) 8 + Int32.ofInt 1) := by
    unfold x185
    rw [zx_p3 h (by omega), zu_r, zu_r, zu_r, zu_k (by omega), zu_k (by omega)]
  refine ⟨?_, ?_⟩
  · rw [er]
    unfold x74
    rw [zR_6 hR, zR_8 hR]
    exact zR_up hq (zR_up hq (zR_up hq hR (by omega) (by omega) (zc_p3 _ hl24)) (by omega) (by omega) rfl) (by omega) (by omega) rfl
  · refine zW_put hW hn hs hsl hl h6 (xw_185 (xk_r hW.w) ⟨h, by omega⟩ ⟨hs.1, by omega⟩).1.1 ?_ ?_ ?_
    · rw [er, zu_k (by omega), zu_k (by omega), zu_s]
    · rw [er, zu_k (by omega), zu_s, e6]
    · intro j a b c
      rw [er, zu_k c, zu_k b, zu_k a]
/-- one day's rot -/
theorem z_or {x : Int32} (h : x = 0 ∨ x = 1) : (x ||| Int32.ofInt 1 = 1) ∧ (x ||| Int32.ofInt 0 = x) := by
  rcases h with rfl | rfl <;> decide
theorem zrot_l {q p : Nat → Nat} {s : Int32} {b : Int} (hq : zq q) : ∀ (c : Nat) (v i : Int32) (Jc Jr : Nat → Nat → Int32), zR q Jc (Jr (p 4)) → zW (Jr (p 4)) b → (0 ≤ s.toInt ∧ s.toInt < (Jr (p 4) 1).toInt) → Jr (p 4) (10 + 7 * s.toNatClampNeg + 4) = 1 → (v = 0 ∨ v = 1) → 0 ≤ i.toInt → zR q (x9_4 q s c v i Jc) (x202_4 p s c v i Jr (p 4)) ∧ zW (x202_4 p s c v i Jr (p 4)) b := by
  have fin : ∀ (v : Int32) (Jc Jr : Nat → Nat → Int32), zR q Jc (Jr (p 4)) → zW (Jr (p 4)) b → (0 ≤ s.toInt ∧ s.toInt < (Jr (p 4) 1).toInt) → Jr (p 4) (10 + 7 * s.toNatClampNeg + 4) = 1 → zR q (if v = 0 then Jc else if (x2 q s ((Jc (q 0) 2) + (Int32.ofInt 1)) Jc) = 0 then (x10 q s Jc) else Jc) ((if v = 0 then Jr else if (x180 p (x169 p s (Int32.ofInt 5) Jr) (Int32.ofInt 2) Jr) = ((Jr (p 4) 4) + (Int32.ofInt 1)) then Jr else (x202_145 p s (((nt_u (nt_u (nt_u Jr (p 4) ((((Int32.ofInt 10) + ((Int32.ofInt 7) * s)) + (Int32.ofInt 4)).toNatClampNeg) (Int32.ofInt 2)) (p 4) ((((Int32.ofInt 10) + ((Int32.ofInt 7) * s)) + (Int32.ofInt 5)).toNatClampNeg) (Int32.ofInt (-1))) (p 4) ((((Int32.ofInt 172) + ((Int32.ofInt 5) * (x169 p s (Int32.ofInt 5) Jr))) + (Int32.ofInt 4)).toNatClampNeg) (Int32.ofInt 3)) (p 4) 2).toNatClampNeg) (Int32.ofInt 0) (nt_u (nt_u (nt_u Jr (p 4) ((((Int32.ofInt 10) + ((Int32.ofInt 7) * s)) + (Int32.ofInt 4)).toNatClampNeg) (Int32.ofInt 2)) (p 4) ((((Int32.ofInt 10) + ((Int32.ofInt 7) * s)) + (Int32.ofInt 5)).toNatClampNeg) (Int32.ofInt (-1))) (p 4) ((((Int32.ofInt 172) + ((Int32.ofInt 5) * (x169 p s (Int32.ofInt 5) Jr))) + (Int32.ofInt 4)).toNatClampNeg) (Int32.ofInt 3)))) (p 4)) ∧ zW ((if v = 0 then Jr else if (x180 p (x169 p s (Int32.ofInt 5) Jr) (Int32.ofInt 2) Jr) = ((Jr (p 4) 4) + (Int32.ofInt 1)) then Jr else (x202_145 p s (((nt_u (nt_u (nt_u Jr (p 4) ((((Int32.ofInt 10) + ((Int32.ofInt 7) * s)) + (Int32.ofInt 4)).toNatClampNeg) (Int32.ofInt 2)) (p 4) ((((Int32.ofInt 10) + ((Int32.ofInt 7) * s)) + (Int32.ofInt 5)).toNatClampNeg) (Int32.ofInt (-1))) (p 4) ((((Int32.ofInt 172) + ((Int32.ofInt 5) * (x169 p s (Int32.ofInt 5) Jr))) + (Int32.ofInt 4)).toNatClampNeg) (Int32.ofInt 3)) (p 4) 2).toNatClampNeg) (Int32.ofInt 0) (nt_u (nt_u (nt_u Jr (p 4) ((((Int32.ofInt 10) + ((Int32.ofInt 7) * s)) + (Int32.ofInt 4)).toNatClampNeg) (Int32.ofInt 2)) (p 4) ((((Int32.ofInt 10) + ((Int32.ofInt 7) * s)) + (Int32.ofInt 5)).toNatClampNeg) (Int32.ofInt (-1))) (p 4) ((((Int32.ofInt 172) + ((Int32.ofInt 5) * (x169 p s (Int32.ofInt 5) Jr))) + (Int32.ofInt 4)).toNatClampNeg) (Int32.ofInt 3)))) (p 4)) b := by
    intro v Jc Jr hR hW hs h1
    by_cases hv0 : v = 0
    · rw [if_pos hv0, if_pos hv0]
      exact ⟨hR, hW⟩
    · rw [if_neg hv0, if_neg hv0]
      have bb := zn_b hW.w
      obtain ⟨sn, si, t4, t5, t6, u4, u5, u6⟩ := zS hR hW.w hs.1 hs.2
      obtain ⟨w, hw, ew, es, ec, eb⟩ := hW.c.on _ sn h1
      have nw : (Jr (p 4) (10 + 7 * s.toNatClampNeg + 5)).toNatClampNeg = w := z_i3 ew
      obtain ⟨hn, hi, c0, c1, c2, c3, c4, r0, r1, r2, r3, r4⟩ := zV (i := Jr (p 4) (10 + 7 * s.toNatClampNeg + 5)) hR hW.w (by omega) (fun c => by have := z_ge.mp c; omega)
      have e71 : ¬ x71 q (Jr (p 4) (10 + 7 * s.toNatClampNeg + 5)) Jc = 0 := by
        unfold x71
        rw [if_neg (fun c => by have := z_le0.mp c; omega), zR_n hR (by omega), if_neg (fun c => by have := z_ge.mp c; omega)]
        decide
      have e2 : x2 q s ((Jc (q 0) 2) + (Int32.ofInt 1)) Jc = if (x180 p (x169 p s (Int32.ofInt 5) Jr) (Int32.ofInt 2) Jr) = ((Jr (p 4) 4) + (Int32.ofInt 1)) then Int32.ofInt 1 else Int32.ofInt 0 := by
        unfold x2
        rw [t5, if_neg e71, c2, zR_4 hR, u5, r2]
      rw [e2]
      by_cases h2 : (x180 p (x169 p s (Int32.ofInt 5) Jr) (Int32.ofInt 2) Jr) = ((Jr (p 4) 4) + (Int32.ofInt 1))
      · rw [if_pos h2, if_pos h2, if_neg (show ¬ Int32.ofInt 1 = 0 from by decide)]
        exact ⟨hR, hW⟩
      · rw [if_neg h2, if_neg h2, if_pos (show Int32.ofInt 0 = 0 from rfl)]
        exact zlose hq hR hW hs h1
  intro c
  induction c with
  | zero =>
    intro v i Jc Jr hR hW hs h1 hv h
    rw [x9_4, x202_4]
    exact fin v Jc Jr hR hW hs h1
  | succ c ih =>
    intro v i Jc Jr hR hW hs hs1 hv h
    rw [x9_4, x202_4, zR_n hR (by omega)]
    by_cases h1 : Jr (p 4) 2 ≤ i
    · rw [if_pos h1, if_pos h1]
      exact fin v Jc Jr hR hW hs hs1
    · rw [if_neg h1, if_neg h1]
      have bb := zn_b hW.w
      obtain ⟨hn, hi, c0, c1, c2, c3, c4, r0, r1, r2, r3, r4⟩ := zP hR hW.w h h1
      have hl24 : i.toNatClampNeg < 24 := by omega
      have si : s.toInt = s.toNatClampNeg := by rw [zn_t]; omega
      have hl : Jr (p 4) (52 + 5 * i.toNatClampNeg + 3) = s → Jr (p 4) (52 + 5 * i.toNatClampNeg + 4) = 0 := by
        intro e3
        rw [hW.b.lo _ hn, e3, hs1, if_neg (fun z => absurd z.2 (by decide))]
      rw [z_in r1 r3 r4 hl, c1, c3]
      by_cases h3 : Jr (p 4) (52 + 5 * i.toNatClampNeg + 3) = s
      · rw [if_pos h3, if_pos h3]
        by_cases h2 : Jr (p 4) (52 + 5 * i.toNatClampNeg + 1) ≤ 0
        · rw [if_pos h2, if_pos h2, if_pos rfl]
          exact ih _ _ _ _ hR hW hs hs1 hv (zi_i h1 h)
        · rw [if_neg h2, if_neg h2, if_neg (show ¬ (1 : Int32) = 0 from by decide), zx_p1 h (by omega)]
          have ro := hW.d.ro _ hn
          have p1 : 0 < (Jr (p 4) (52 + 5 * i.toNatClampNeg + 1)).toInt := by
            have : ¬ (Jr (p 4) (52 + 5 * i.toNatClampNeg + 1)).toInt ≤ 0 := fun z => h2 (z_ge.mpr z)
            omega
          have em : (Jr (p 4) (52 + 5 * i.toNatClampNeg + 1) - Int32.ofInt 1).toInt = (Jr (p 4) (52 + 5 * i.toNatClampNeg + 1)).toInt - 1 := by
            rw [Int32.toInt_sub, show (Int32.ofInt 1).toInt = 1 from by decide, Int.bmod_eq_of_le (by omega) (by omega)]
          have hR' : zR q (nt_u Jc (q 13) i.toNatClampNeg (Jr (p 4) (52 + 5 * i.toNatClampNeg + 1) - Int32.ofInt 1)) (nt_u Jr (p 4) (52 + 5 * i.toNatClampNeg + 1) (Jr (p 4) (52 + 5 * i.toNatClampNeg + 1) - Int32.ofInt 1) (p 4)) := by
            rw [zu_r]
            exact zR_up hq hR (by omega) (by omega) (zc_p1 _ hl24)
          have hW' : zW (nt_u Jr (p 4) (52 + 5 * i.toNatClampNeg + 1) (Jr (p 4) (52 + 5 * i.toNatClampNeg + 1) - Int32.ofInt 1) (p 4)) b :=
            zW_rot hW hl24 (xr_up hW.w (xr_any (xr_bp hl24 (by omega) (by omega) (by omega)))) (by rw [me_us, em]; omega) (fun j hj => me_uk hj)
          have ih' := fun v' hv' => ih v' (i + Int32.ofInt 1) _ _ hR' hW' (by rw [me_uk (by omega)]; exact hs) (by rw [me_uk (by omega)]; exact hs1) hv' (zi_i h1 h)
          have rd : x173 p i (Int32.ofInt 1) (nt_u Jr (p 4) (52 + 5 * i.toNatClampNeg + 1) (Jr (p 4) (52 + 5 * i.toNatClampNeg + 1) - Int32.ofInt 1)) = Jr (p 4) (52 + 5 * i.toNatClampNeg + 1) - Int32.ofInt 1 := by
            rw [show x173 p i (Int32.ofInt 1) (nt_u Jr (p 4) (52 + 5 * i.toNatClampNeg + 1) (Jr (p 4) (52 + 5 * i.toNatClampNeg + 1) - Int32.ofInt 1)) = _ from zx_p (k := 1) h (by omega) (by omega), me_us]
          rw [rd]
          by_cases z : (Jr (p 4) (52 + 5 * i.toNatClampNeg + 1) - Int32.ofInt 1) = 0
          · rw [if_pos z, if_pos z, (z_or hv).1]
            rcases hv with v0 | v1
            · rw [if_pos v0]
              exact ih' _ (Or.inr rfl)
            · rw [if_neg (by rw [v1]; decide)]
              exact ih' _ (Or.inr rfl)
          · rw [if_neg z, if_neg z, (z_or hv).2]
            rcases hv with v0 | v1
            · rw [if_pos v0, v0]
              exact ih' _ (Or.inl rfl)
            · rw [if_neg (by rw [v1]; decide), v1]
              exact ih' _ (Or.inr rfl)
      · rw [if_neg h3, if_neg h3, if_pos rfl]
        exact ih _ _ _ _ hR hW hs hs1 hv (zi_i h1 h)
theorem zrot {q p : Nat → Nat} {s : Int32} {b : Int} {Jc Jr : Nat → Nat → Int32} (hq : zq q) (hR : zR q Jc (Jr (p 4))) (hW : zW (Jr (p 4)) b) (hs : 0 ≤ s.toInt ∧ s.toInt < (Jr (p 4) 1).toInt) (h1 : Jr (p 4) (10 + 7 * s.toNatClampNeg + 4) = 1) : zR q (x9 q s Jc) (x202 p s Jr (p 4)) ∧ zW (x202 p s Jr (p 4)) b := by
  unfold x9 x202
  rw [zR_n hR (by omega)]
  exact zrot_l hq _ _ _ _ _ hR hW hs h1 (Or.inl rfl) (by decide)
