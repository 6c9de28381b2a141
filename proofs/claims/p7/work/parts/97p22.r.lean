/-! ahead: both sides -/
theorem zid_h {p : Nat → Nat} {J : Nat → Nat → Int32} {b : Int} (hW : zW (J (p 4)) b) (hb : 100 ≤ b) : ∀ (c : Nat) (i : Int32), 0 ≤ i.toInt → zhr p c i J = J := by
  have bb := zn_b hW.w
  intro c
  induction c with
  | zero => intro i h; rfl
  | succ c ih =>
    intro i h
    rw [zhr]
    by_cases h1 : J (p 4) 3 ≤ i
    · rw [if_pos h1]
    · have x := zx bb.2.2.2.2.2.2.2 h h1
      rw [if_neg h1, show x180 p i (Int32.ofInt 4) J = _ from zx_v (k := 4) h (by omega) (by omega), if_neg]
      · exact ih _ (zi_i h1 h)
      · intro c1
        obtain ⟨s, hs, es, e1, eo⟩ := hW.c.vc _ x.1 c1
        obtain ⟨v, hv, ev, _, _, eb⟩ := hW.c.on s hs e1
        have vo := hW.a.vo v hv
        omega
theorem zid_50 {p : Nat → Nat} {v1 : Int32} {J : Nat → Nat → Int32} {b : Int} (hW : zW (J (p 4)) b) (hd : 100 ≤ (J (p 4) 4).toInt) : ∀ (c : Nat) (i : Int32) (L : Nat → Nat → Int64), 0 ≤ i.toInt → x190_50 p v1 c i J L = x190_108 p L ((J (p 4) 1).toNatClampNeg) (Int32.ofInt 0) J := by
  have bb := zn_b hW.w
  intro c
  induction c with
  | zero => intro i L h; rfl
  | succ c ih =>
    intro i L h
    rw [x190_50]
    by_cases h1 : J (p 4) 3 ≤ i
    · rw [if_pos h1]
    · have x := zx bb.2.2.2.2.2.2.2 h h1
      rw [if_neg h1, show x180 p i (Int32.ofInt 1) J = _ from zx_v (k := 1) h (by omega) (by omega), if_neg]
      · exact ih _ _ (zi_i h1 h)
      · intro c1
        have vo := hW.a.vo _ x.1
        rw [c1] at vo
        omega
theorem zid_108 {p : Nat → Nat} {L : Nat → Nat → Int64} {J : Nat → Nat → Int32} {b : Int} (hW : zW (J (p 4)) b) (hb : 100 ≤ b) : ∀ (c : Nat) (i : Int32), 0 ≤ i.toInt → x190_108 p L c i J = (nt_u (nt_u J (p 4) 4 ((J (p 4) 4) + (Int32.ofInt 1))) (p 4) 6 (Int32.ofInt 0), L) := by
  have bb := zn_b hW.w
  intro c
  induction c with
  | zero => intro i h; rfl
  | succ c ih =>
    intro i h
    rw [x190_108]
    by_cases h1 : J (p 4) 1 ≤ i
    · rw [if_pos h1]
    · have x := zx bb.2.2.2.2.2.1 h h1
      rw [if_neg h1, show x169 p i (Int32.ofInt 4) J = _ from zx_s (k := 4) h (by omega) (by omega), if_neg]
      · exact ih _ (zi_i h1 h)
      · intro c1
        obtain ⟨v, hv, ev, _, _, eb⟩ := hW.c.on _ x.1 c1
        have vo := hW.a.vo v hv
        omega
/-- behind the last voyage's day nothing happens -/
theorem zidle {p : Nat → Nat} {v1 : Int32} {J : Nat → Nat → Int32} {L : Nat → Nat → Int64} (hW : zW (J (p 4)) (J (p 4) 4).toInt) (hd : 100 ≤ (J (p 4) 4).toInt) (h9 : (J (p 4) 4).toInt ≤ 900) : (x190 p v1 J L).1 = nt_u (nt_u J (p 4) 4 ((J (p 4) 4) + (Int32.ofInt 1))) (p 4) 6 (Int32.ofInt 0) ∧ zW ((x190 p v1 J L).1 (p 4)) ((x190 p v1 J L).1 (p 4) 4).toInt ∧ ((x190 p v1 J L).1 (p 4) 4).toInt = (J (p 4) 4).toInt + 1 ∧ (∀ j, j ≠ 4 → j ≠ 6 → (x190 p v1 J L).1 (p 4) j = J (p 4) j) := by
  have e : (x190 p v1 J L).1 = nt_u (nt_u J (p 4) 4 ((J (p 4) 4) + (Int32.ofInt 1))) (p 4) 6 (Int32.ofInt 0) := by
    unfold x190
    rw [zhr_1, zid_h hW hd _ _ (by decide), zid_50 hW hd _ _ _ (by decide), zid_108 hW hd _ _ (by decide)]
  have er : (nt_u (nt_u J (p 4) 4 ((J (p 4) 4) + (Int32.ofInt 1))) (p 4) 6 (Int32.ofInt 0)) (p 4) = zu (zu (J (p 4)) 4 (J (p 4) 4 + Int32.ofInt 1)) 6 (Int32.ofInt 0) := by
    rw [zu_r, zu_r]
  have e4 : (J (p 4) 4 + Int32.ofInt 1).toInt = (J (p 4) 4).toInt + 1 := by
    rw [Int32.toInt_add, show (Int32.ofInt 1).toInt = 1 from by decide, Int.bmod_eq_of_le (by omega) (by omega)]
  have f4 : ((nt_u (nt_u J (p 4) 4 ((J (p 4) 4) + (Int32.ofInt 1))) (p 4) 6 (Int32.ofInt 0)) (p 4) 4).toInt = (J (p 4) 4).toInt + 1 := by rw [er, zu_k (by omega), zu_s, e4]
  have fo : ∀ j, j ≠ 4 → j ≠ 6 → (nt_u (nt_u J (p 4) 4 ((J (p 4) 4) + (Int32.ofInt 1))) (p 4) 6 (Int32.ofInt 0)) (p 4) j = J (p 4) j := fun j a c => by rw [er, zu_k c, zu_k a]
  have w : zW ((nt_u (nt_u J (p 4) 4 ((J (p 4) 4) + (Int32.ofInt 1))) (p 4) 6 (Int32.ofInt 0)) (p 4)) (J (p 4) 4).toInt := zW_day hW (xr_up (xr_up hW.w (xr_any rfl)) (xr_any rfl)) (by rw [f4]; omega) (by rw [er, zu_s]; rfl) fo
  rw [e]
  refine ⟨rfl, ?_, f4, fo⟩
  rw [f4]
  refine ⟨w.w, w.a, w.b, ⟨w.c.st, ?_, w.c.no, w.c.vc⟩, w.d⟩
  intro s hs e1
  obtain ⟨v, hv, ev, es, ec, eb⟩ := w.c.on s hs e1
  have vo := w.a.vo v hv
  omega
theorem z228_ag {p : Nat → Nat} {J J' : Nat → Nat → Int32} (hW : xr_W (J (p 4))) (fo : ∀ j, j ≠ 4 → j ≠ 6 → J' (p 4) j = J (p 4) j) : x228 p J' = x228 p J := by
  have bb := zn_b hW
  have l : ∀ (c : Nat) (a i : Int32), 0 ≤ i.toInt → x228_4 p J' c a i = x228_4 p J c a i := by
    intro c
    induction c with
    | zero => intro a i h; rfl
    | succ c ih =>
      intro a i h
      rw [x228_4, x228_4, fo 1 (by omega) (by omega)]
      by_cases h1 : J (p 4) 1 ≤ i
      · rw [if_pos h1, if_pos h1]
      · have x := zx bb.2.2.2.2.2.1 h h1
        rw [if_neg h1, if_neg h1, ih _ _ (zi_i h1 h), ih _ _ (zi_i h1 h), show x169 p i (Int32.ofInt 4) J' = _ from zx_s (k := 4) h (by omega) (by omega), show x169 p i (Int32.ofInt 4) J = _ from zx_s (k := 4) h (by omega) (by omega), fo _ (by omega) (by omega)]
  unfold x228
  rw [fo 1 (by omega) (by omega)]
  exact l _ _ _ (by decide)
def zansR (p : Nat → Nat) (v3 : Int32) (J : Nat → Nat → Int32) : Int32 := if v3 = 0 then (J (p 4) 7) - (J (p 7) 7) else if v3 = Int32.ofInt 1 then x228 p J else (J (p 4) 8) - (J (p 7) 8)
theorem zah_fin {p : Nat → Nat} {v3 : Int32} {J : Nat → Nat → Int32} {L : Nat → Nat → Int64} : (if v3 = 0 then ((J (p 4) 7) - (J (p 7) 7), x229 p J, L) else if v3 = (Int32.ofInt 1) then (x228 p J, x229 p J, L) else ((J (p 4) 8) - (J (p 7) 8), x229 p J, L)) = (zansR p v3 J, x229 p J, L) := by
  unfold zansR
  split
  · rfl
  · split
    · rfl
    · rfl
theorem zah_idle {p : Nat → Nat} {v1 v2 v3 : Int32} (hp : zpd p) : ∀ (c : Nat) (i : Int32) (J : Nat → Nat → Int32) (L : Nat → Nat → Int64), 0 ≤ i.toInt → i.toInt ≤ v2.toInt → zW (J (p 4)) (J (p 4) 4).toInt → 100 ≤ (J (p 4) 4).toInt → (J (p 4) 4).toInt + (v2.toInt - i.toInt) ≤ 900 → (x226_41 p v1 v2 v3 c i J L).1 = zansR p v3 J := by
  intro c
  induction c with
  | zero =>
    intro i J L i0 iv hW hd h9
    rw [x226_41, zah_fin]
  | succ c ih =>
    intro i J L i0 iv hW hd h9
    rw [x226_41]
    by_cases h1 : v2 ≤ i
    · rw [if_pos h1, zah_fin]
    · rw [if_neg h1]
      have lt := z_lt h1
      have z := zidle (v1 := v1) (L := L) hW hd (by omega)
      have e7 : (x190 p v1 J L).1 (p 7) = J (p 7) := by
        rw [z.1, me_uo (hp 7 4 (by omega) (by omega) (by omega)), me_uo (hp 7 4 (by omega) (by omega) (by omega))]
      rw [ih _ _ _ (zi_i h1 i0) (by rw [lx_inc h1]; omega) z.2.1 (by rw [z.2.2.1]; omega) (by rw [z.2.2.1, lx_inc h1]; omega)]
      unfold zansR
      rw [e7, z.2.2.2 7 (by omega) (by omega), z.2.2.2 8 (by omega) (by omega), z228_ag hW.w z.2.2.2]
theorem zahead_f  {p : Nat → Nat} {v3 : Int32} {Jc Jr : Nat → Nat → Int32} {Lc : Nat → Nat → Int64} (hR : zR (fun i => p (48 + i)) Jc (Jr (p 4))) (hW : xr_W (Jr (p 4))) (h5 : Jc (p 31) 5 = Jr (p 7) 7) (h4 : Jc (p 31) 4 = Jr (p 7) 8) : (if v3 = Int32.ofInt 0 then ((Jc (p 48) 5) - (Jc (p 31) 5), Jc, Lc) else if v3 = Int32.ofInt 1 then (x79 (fun i => p (48 + i)) Jc, Jc, Lc) else ((Jc (p 48) 4) - (Jc (p 31) 4), Jc, Lc)).1 = zansR p v3 Jr := by
  unfold zansR
  rw [h5, h4, show Jc (p 48) 5 = Jr (p 4) 7 from zR_7 hR, show Jc (p 48) 4 = Jr (p 4) 8 from zR_8 hR, zq_79 hR hW]
  by_cases c0 : v3 = Int32.ofInt 0
  · rw [if_pos c0, if_pos (show v3 = 0 from c0)]
  · rw [if_neg c0, if_neg (show ¬ v3 = 0 from c0)]
    split
    · rfl
    · rfl
theorem zahead_l {p : Nat → Nat} {v1 v2 v3 : Int32} {sp ln T : Nat} (hsq : ∀ i, i < 17 → sp ≠ p (48 + i)) (ht : v1.toInt = (T : Nat)) (X : zX p (fun i => p (48 + i))) : ∀ (c : Nat) (i : Int32) (Jc Jr : Nat → Nat → Int32) (Lc Lr : Nat → Nat → Int64), 0 ≤ i.toInt → i.toInt ≤ v2.toInt → v2.toInt - i.toInt ≤ c → (Jr (p 4) 4).toInt + (v2.toInt - i.toInt) ≤ 900 → zR (fun i => p (48 + i)) Jc (Jr (p 4)) → zW (Jr (p 4)) (Jr (p 4) 4).toInt → Jc (p 31) 5 = Jr (p 7) 7 → Jc (p 31) 4 = Jr (p 7) 8 → zRQ p sp ln T Jc Jr → (x123_53 p sp ln v1 v2 v3 c i Jc Lc).1 = (x226_41 p v1 v2 v3 c i Jr Lr).1 := by
  have n7a : p 7 ≠ p 0 := X.hp 7 0 (by omega) (by omega) (by omega)
  have n7b : p 7 ≠ p 4 := X.hp 7 4 (by omega) (by omega) (by omega)
  intro c
  induction c with
  | zero =>
    intro i Jc Jr Lc Lr i0 iv hc h9 hR hW h5 h4 hQ
    rw [x123_53, x226_41, zah_fin]
    exact zahead_f hR hW.w h5 h4
  | succ c ih =>
    intro i Jc Jr Lc Lr i0 iv hc h9 hR hW h5 h4 hQ
    by_cases h1 : v2 ≤ i
    · rw [x123_53, x226_41, if_pos h1, if_pos h1, zah_fin]
      exact zahead_f hR hW.w h5 h4
    · by_cases h2 : Int32.ofInt 99 < Jc (p 48) 2
      · have e4 : Jc (p 48) 2 = Jr (p 4) 4 := zR_4 hR
        have d : 99 < (Jr (p 4) 4).toInt := by
          rw [e4] at h2
          have h2 := Int32.lt_iff_toInt_lt.mp h2
          rw [show (Int32.ofInt 99).toInt = 99 from by decide] at h2
          exact h2
        rw [zah_idle X.hp (c + 1) i Jr Lr i0 iv hW (by omega) h9, x123_53, if_neg h1, if_pos h2]
        exact zahead_f hR hW.w h5 h4
      · rw [x123_53, x226_41, if_neg h1, if_neg h1, if_neg h2]
        have lt := z_lt h1
        have z := zpass (Lc := Lc) (Lr := Lr) hsq ht hQ X hR hW (by omega)
        have e4 := z.2.2.2
        have k31 : ∀ j, (x1 p (fun i => p (48 + i)) sp ln Jc Lc).1 (p 31) j = Jc (p 31) j := fun j => congrFun (z.2.2.1.c (p 31) (X.hp 31 25 (by omega) (by omega) (by omega)) (fun i hi => X.hp 31 (48 + i) (by omega) (by omega) (by omega))) j
        have k7 : ∀ j, (x190 p v1 Jr Lr).1 (p 7) j = Jr (p 7) j := fun j => congrFun (z.2.2.1.r (p 7) n7a n7b) j
        exact ih (i + Int32.ofInt 1) _ _ (x1 p (fun i => p (48 + i)) sp ln Jc Lc).2 (x190 p v1 Jr Lr).2 (zi_i h1 i0) (by rw [lx_inc h1]; omega) (lx_dec h1 hc) (by rw [e4, lx_inc h1]; omega) z.1 z.2.1 (by rw [k31, k7]; exact h5) (by rw [k31, k7]; exact h4) (zKp_Q X hsq z.2.2.1 hQ)
theorem zaheadN_f  {p : Nat → Nat} {v3 : Int32} {Jc Jr : Nat → Nat → Int32} (hR : zR (fun i => p (48 + i)) Jc (Jr (p 4))) (hW : xr_W (Jr (p 4))) (h5 : Jc (p 31) 5 = Jr (p 7) 7) (h4 : Jc (p 31) 4 = Jr (p 7) 8) : (if v3 = Int32.ofInt 0 then ((Jc (p 48) 5) - (Jc (p 31) 5), Jc) else if v3 = Int32.ofInt 1 then (x79 (fun i => p (48 + i)) Jc, Jc) else ((Jc (p 48) 4) - (Jc (p 31) 4), Jc)).1 = zansR p v3 Jr := by
  unfold zansR
  rw [h5, h4, show Jc (p 48) 5 = Jr (p 4) 7 from zR_7 hR, show Jc (p 48) 4 = Jr (p 4) 8 from zR_8 hR, zq_79 hR hW]
  by_cases c0 : v3 = Int32.ofInt 0
  · rw [if_pos c0, if_pos (show v3 = 0 from c0)]
  · rw [if_neg c0, if_neg (show ¬ v3 = 0 from c0)]
    split
    · rfl
    · rfl
theorem zaheadN_l {p : Nat → Nat} {v1 v2 v3 : Int32} (X : zX p (fun i => p (48 + i))) : ∀ (c : Nat) (i : Int32) (Jc Jr : Nat → Nat → Int32) (Lr : Nat → Nat → Int64), 0 ≤ i.toInt → i.toInt ≤ v2.toInt → v2.toInt - i.toInt ≤ c → (Jr (p 4) 4).toInt + (v2.toInt - i.toInt) ≤ 900 → zR (fun i => p (48 + i)) Jc (Jr (p 4)) → zW (Jr (p 4)) (Jr (p 4) 4).toInt → Jc (p 31) 5 = Jr (p 7) 7 → Jc (p 31) 4 = Jr (p 7) 8 → (x123N_53 p v1 v2 v3 c i Jc).1 = (x226_41 p (Int32.ofInt (-1)) v2 v3 c i Jr Lr).1 := by
  have n7a : p 7 ≠ p 0 := X.hp 7 0 (by omega) (by omega) (by omega)
  have n7b : p 7 ≠ p 4 := X.hp 7 4 (by omega) (by omega) (by omega)
  intro c
  induction c with
  | zero =>
    intro i Jc Jr Lr i0 iv hc h9 hR hW h5 h4
    rw [x123N_53, x226_41, zah_fin]
    exact zaheadN_f hR hW.w h5 h4
  | succ c ih =>
    intro i Jc Jr Lr i0 iv hc h9 hR hW h5 h4
    by_cases h1 : v2 ≤ i
    · rw [x123N_53, x226_41, if_pos h1, if_pos h1, zah_fin]
      exact zaheadN_f hR hW.w h5 h4
    · by_cases h2 : Int32.ofInt 99 < Jc (p 48) 2
      · have e4 : Jc (p 48) 2 = Jr (p 4) 4 := zR_4 hR
        have d : 99 < (Jr (p 4) 4).toInt := by
          rw [e4] at h2
          have h2 := Int32.lt_iff_toInt_lt.mp h2
          rw [show (Int32.ofInt 99).toInt = 99 from by decide] at h2
          exact h2
        rw [zah_idle X.hp (c + 1) i Jr Lr i0 iv hW (by omega) h9, x123N_53, if_neg h1, if_pos h2]
        exact zaheadN_f hR hW.w h5 h4
      · rw [x123N_53, x226_41, if_neg h1, if_neg h1, if_neg h2]
        have lt := z_lt h1
        have z := zpassN (Lr := Lr) X hR hW (by omega)
        have e4 := z.2.2.2
        have k31 : ∀ j, (x1N p (fun i => p (48 + i)) Jc) (p 31) j = Jc (p 31) j := fun j => congrFun (z.2.2.1.c (p 31) (X.hp 31 25 (by omega) (by omega) (by omega)) (fun i hi => X.hp 31 (48 + i) (by omega) (by omega) (by omega))) j
        have k7 : ∀ j, (x190 p (Int32.ofInt (-1)) Jr Lr).1 (p 7) j = Jr (p 7) j := fun j => congrFun (z.2.2.1.r (p 7) n7a n7b) j
        exact ih (i + Int32.ofInt 1) _ _ (x190 p (Int32.ofInt (-1)) Jr Lr).2 (zi_i h1 i0) (by rw [lx_inc h1]; omega) (lx_dec h1 hc) (by rw [e4, lx_inc h1]; omega) z.1 z.2.1 (by rw [k31, k7]; exact h5) (by rw [k31, k7]; exact h4)
