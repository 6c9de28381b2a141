/-! setting out -/
theorem zfill {p q : Nat → Nat} {sp ln T : Nat} {t v s k : Int32} {b : Int} {Jc Jr : Nat → Nat → Int32} {Lc Lr : Nat → Nat → Int64} (X : zX p q) (hsq : ∀ i, i < 17 → sp ≠ q i) (ht : t.toInt = (T : Nat)) (v0 : 0 ≤ v.toInt) (hR : zR q Jc (Jr (p 4))) (hW : zW (Jr (p 4)) b) (hQ : zRQ p sp ln T Jc Jr) (v1 : ¬ Jr (p 4) 3 ≤ v) (es : Jr (p 4) (172 + 5 * v.toNatClampNeg + 0) = s) (hs : 0 ≤ s.toInt ∧ s.toInt < (Jr (p 4) 1).toInt) (h0 : Jr (p 4) (10 + 7 * s.toNatClampNeg + 4) = 0) (hk : 0 ≤ k.toInt ∧ k.toInt < (Jr (p 4) 0).toInt) :
    zR q (x5 p q sp ln v k Jc Lc).1 ((x192_18 p t s v k (((Jr (p 4) 5).toInt - (Jr (p 4) 6).toInt).toNat) Jr Lr).1 (p 4)) ∧ zW ((x192_18 p t s v k (((Jr (p 4) 5).toInt - (Jr (p 4) 6).toInt).toNat) Jr Lr).1 (p 4)) b ∧ zKp p q sp Jc Jr (x5 p q sp ln v k Jc Lc).1 (x192_18 p t s v k (((Jr (p 4) 5).toInt - (Jr (p 4) 6).toInt).toNat) Jr Lr).1 ∧ (∀ j, j < 6 → (x192_18 p t s v k (((Jr (p 4) 5).toInt - (Jr (p 4) 6).toInt).toNat) Jr Lr).1 (p 4) j = Jr (p 4) j) ∧ (x192_18 p t s v k (((Jr (p 4) 5).toInt - (Jr (p 4) 6).toInt).toNat) Jr Lr).1 (p 4) (10 + 7 * s.toNatClampNeg + 4) = 0 ∧ (∀ j, 172 ≤ j → (x192_18 p t s v k (((Jr (p 4) 5).toInt - (Jr (p 4) 6).toInt).toNat) Jr Lr).1 (p 4) j = Jr (p 4) j) := by
  have d0 : Jc (q 6) v.toNatClampNeg = s := by rw [(zV hR hW.w v0 v1).2.2.1, es]
  have hd := hW.a.hd
  have h6 := hW.d.h6
  have e72 : (x72 q Jc).toInt = (Jr (p 4) 5).toInt - (Jr (p 4) 6).toInt := by
    unfold x72
    have n0 : ¬ Jr (p 4) 0 = 0 := fun c => by
      rw [c, show (0 : Int32).toInt = 0 from by decide] at hk
      omega
    rw [hR.2, if_neg n0, if_neg (show ¬ (1 : Int32) = 0 from by decide), zR_5 hR, zR_6 hR, Int32.toInt_sub, Int.bmod_eq_of_le (by omega) (by omega)]
  have e68 : x68 q s k Jc = x175 p s k Jr := zq_68 hR hW.w (zl_of hW (fun _ c => by rw [h0] at c; exact absurd c (by decide))) hs hk
  have l175 := zkn_175 (k := k) hW.w hW.a (zl_of hW (fun _ c => by rw [h0] at c; exact absurd c (by decide))) hs hk
  have ew : (if (x72 q Jc) < (x68 q s k Jc) then (x72 q Jc) else (x68 q s k Jc)).toInt = min (x175 p s k Jr).toInt ((Jr (p 4) 5).toInt - (Jr (p 4) 6).toInt) := by
    rw [e68]
    by_cases c : x72 q Jc < x175 p s k Jr
    · rw [if_pos c, e72]
      have := Int32.lt_iff_toInt_lt.mp c
      omega
    · rw [if_neg c]
      have : ¬ (x72 q Jc).toInt < (x175 p s k Jr).toInt := fun z => c (Int32.lt_iff_toInt_lt.mpr z)
      omega
  unfold x5
  rw [d0]
  have nn : 0 ≤ (if (x72 q Jc) < (x68 q s k Jc) then (x72 q Jc) else (x68 q s k Jc)).toInt := by
    rw [ew]
    omega
  have tn := z_tn nn
  exact zfill_l X hsq ht v0 _ _ _ _ _ _ _ hR hW hQ v1 es hs h0 hk (by rw [show (Int32.ofInt 0).toInt = 0 from by decide]; omega) (by decide) (by rw [← tn]; exact ew) (by omega)
theorem zgo {p q : Nat → Nat} {v s : Int32} {b : Int} {Jc Jr : Nat → Nat → Int32} (X : zX p q) (v0 : 0 ≤ v.toInt) (hR : zR q Jc (Jr (p 4))) (hW : zW (Jr (p 4)) b) (v1 : ¬ Jr (p 4) 3 ≤ v) (es : Jr (p 4) (172 + 5 * v.toNatClampNeg + 0) = s) (hs : 0 ≤ s.toInt ∧ s.toInt < (Jr (p 4) 1).toInt) (h0 : Jr (p 4) (10 + 7 * s.toNatClampNeg + 4) = 0) (hb : b ≤ (Jr (p 4) (172 + 5 * v.toNatClampNeg + 2)).toInt) :
    zR q (if x67 q s Jc = 0 then Jc else (nt_u (nt_u (nt_u Jc (q 10) s.toNatClampNeg (Int32.ofInt 1)) (q 12) s.toNatClampNeg v) (q 16) v.toNatClampNeg (Int32.ofInt 1))) ((if x174 p s Jr = 0 then Jr else (nt_u (nt_u (nt_u Jr (p 4) ((((Int32.ofInt 10) + ((Int32.ofInt 7) * s)) + (Int32.ofInt 4)).toNatClampNeg) (Int32.ofInt 1)) (p 4) ((((Int32.ofInt 10) + ((Int32.ofInt 7) * s)) + (Int32.ofInt 5)).toNatClampNeg) v) (p 4) ((((Int32.ofInt 172) + ((Int32.ofInt 5) * v)) + (Int32.ofInt 4)).toNatClampNeg) (Int32.ofInt 1))) (p 4)) ∧
    zW ((if x174 p s Jr = 0 then Jr else (nt_u (nt_u (nt_u Jr (p 4) ((((Int32.ofInt 10) + ((Int32.ofInt 7) * s)) + (Int32.ofInt 4)).toNatClampNeg) (Int32.ofInt 1)) (p 4) ((((Int32.ofInt 10) + ((Int32.ofInt 7) * s)) + (Int32.ofInt 5)).toNatClampNeg) v) (p 4) ((((Int32.ofInt 172) + ((Int32.ofInt 5) * v)) + (Int32.ofInt 4)).toNatClampNeg) (Int32.ofInt 1))) (p 4)) b ∧
    zKp p q 0 Jc Jr (if x67 q s Jc = 0 then Jc else (nt_u (nt_u (nt_u Jc (q 10) s.toNatClampNeg (Int32.ofInt 1)) (q 12) s.toNatClampNeg v) (q 16) v.toNatClampNeg (Int32.ofInt 1))) (if x174 p s Jr = 0 then Jr else (nt_u (nt_u (nt_u Jr (p 4) ((((Int32.ofInt 10) + ((Int32.ofInt 7) * s)) + (Int32.ofInt 4)).toNatClampNeg) (Int32.ofInt 1)) (p 4) ((((Int32.ofInt 10) + ((Int32.ofInt 7) * s)) + (Int32.ofInt 5)).toNatClampNeg) v) (p 4) ((((Int32.ofInt 172) + ((Int32.ofInt 5) * v)) + (Int32.ofInt 4)).toNatClampNeg) (Int32.ofInt 1))) ∧
    (∀ j, j < 6 → (if x174 p s Jr = 0 then Jr else (nt_u (nt_u (nt_u Jr (p 4) ((((Int32.ofInt 10) + ((Int32.ofInt 7) * s)) + (Int32.ofInt 4)).toNatClampNeg) (Int32.ofInt 1)) (p 4) ((((Int32.ofInt 10) + ((Int32.ofInt 7) * s)) + (Int32.ofInt 5)).toNatClampNeg) v) (p 4) ((((Int32.ofInt 172) + ((Int32.ofInt 5) * v)) + (Int32.ofInt 4)).toNatClampNeg) (Int32.ofInt 1))) (p 4) j = Jr (p 4) j) := by
  have bb := zn_b hW.w
  have e67 : x67 q s Jc = x174 p s Jr := zq_67 hR hW.w (zl_of hW (fun _ c => by rw [h0] at c; exact absurd c (by decide))) hs
  rw [e67]
  by_cases c : x174 p s Jr = 0
  · rw [if_pos c, if_pos c]
    exact ⟨hR, hW, zKp_r, fun _ _ => rfl⟩
  · rw [if_neg c, if_neg c]
    have xv := zx bb.2.2.2.2.2.2.2 v0 v1
    have ts := z_tn hs.1
    rw [zx_s4 hs.1 (by omega), zx_s5 hs.1 (by omega), zx_v4 v0 (by omega)]
    have er : (nt_u (nt_u (nt_u Jr (p 4) (10 + 7 * s.toNatClampNeg + 4) (Int32.ofInt 1)) (p 4) (10 + 7 * s.toNatClampNeg + 5) v) (p 4) (172 + 5 * v.toNatClampNeg + 4) (Int32.ofInt 1)) (p 4) = zu (zu (zu (Jr (p 4)) (10 + 7 * s.toNatClampNeg + 4) (Int32.ofInt 1)) (10 + 7 * s.toNatClampNeg + 5) v) (172 + 5 * v.toNatClampNeg + 4) (Int32.ofInt 1) := by
      rw [zu_r, zu_r, zu_r]
    refine ⟨?_, ?_, ?_, ?_⟩
    · rw [er]
      exact zR_up X.hq (zR_up X.hq (zR_up X.hq hR (by omega) (by omega) (zc_s4 _ (by omega))) (by omega) (by omega) (zc_s5 _ (by omega))) (by omega) (by omega) (zc_v4 _ (by omega))
    · refine zW_out hW (n := s.toNatClampNeg) (v := v.toNatClampNeg) (by omega) h0 xv.1 (by rw [es]; exact ts) hb ?_ ?_ ?_ ?_ ?_
      · exact xr_up (xr_up (xr_up hW.w (xr_any (xr_bs (by omega) (by omega) (by omega)))) (by rw [xr_b5 (by omega)]; show -1 ≤ v.toInt ∧ v.toInt ≤ 7; omega)) (xr_any (xr_bv (by omega) (by omega) (by omega)))
      · rw [er, zu_k (by omega), zu_k (by omega), zu_s]
        rfl
      · rw [er, zu_k (by omega), zu_s]
        exact xv.2
      · rw [er, zu_s]
        rfl
      · intro j a b c
        rw [er, zu_k c, zu_k b, zu_k a]
    · refine ⟨fun a _ h2 => ?_, fun a _ h2 => ?_⟩
      · rw [me_uo (h2 16 (by omega)), me_uo (h2 12 (by omega)), me_uo (h2 10 (by omega))]
      · rw [me_uo h2, me_uo h2, me_uo h2]
    · intro j hj
      rw [er, zu_k (by omega), zu_k (by omega), zu_k (by omega)]
theorem zKp_s {p q : Nat → Nat} {sp sp' : Nat} {Jc Jr Jc' Jr' : Nat → Nat → Int32} (h : zKp p q sp Jc Jr Jc' Jr') : zKp p q sp' Jc Jr Jc' Jr' := ⟨h.c, h.r⟩
theorem zset_l {p q : Nat → Nat} {sp ln T : Nat} {t v s : Int32} {b : Int} (X : zX p q) (hsq : ∀ i, i < 17 → sp ≠ q i) (ht : t.toInt = (T : Nat)) (v0 : 0 ≤ v.toInt) :
    ∀ (c : Nat) (i : Int32) (Jc Jr : Nat → Nat → Int32) (Lc Lr : Nat → Nat → Int64), 0 ≤ i.toInt → zR q Jc (Jr (p 4)) → zW (Jr (p 4)) b → zRQ p sp ln T Jc Jr → ¬ Jr (p 4) 3 ≤ v → Jr (p 4) (172 + 5 * v.toNatClampNeg + 0) = s → (0 ≤ s.toInt ∧ s.toInt < (Jr (p 4) 1).toInt) → Jr (p 4) (10 + 7 * s.toNatClampNeg + 4) = 0 → b ≤ (Jr (p 4) (172 + 5 * v.toNatClampNeg + 2)).toInt →
    zR q (x4_18 p q sp ln v s c i Jc Lc).1 ((x192_3 p t s v c i Jr Lr).1 (p 4)) ∧ zW ((x192_3 p t s v c i Jr Lr).1 (p 4)) b ∧ zKp p q sp Jc Jr (x4_18 p q sp ln v s c i Jc Lc).1 (x192_3 p t s v c i Jr Lr).1 ∧ (∀ j, j < 6 → (x192_3 p t s v c i Jr Lr).1 (p 4) j = Jr (p 4) j) := by
  have pr : ∀ {P : Prop} [Decidable P] {A B : Nat → Nat → Int32} {L : Nat → Nat → Int64}, (if P then (A, L) else (B, L)).1 = (if P then A else B) := by
    intro P _ A B L
    split <;> rfl
  intro c
  induction c with
  | zero =>
    intro i Jc Jr Lc Lr i0 hR hW hQ v1 es hs h0 hb
    have z := zgo X v0 hR hW v1 es hs h0 hb
    rw [x4_18, x192_3, pr, pr]
    exact ⟨z.1, z.2.1, zKp_s z.2.2.1, z.2.2.2⟩
  | succ c ih =>
    intro i Jc Jr Lc Lr i0 hR hW hQ v1 es hs h0 hb
    rw [x4_18, x192_3, zR_n hR (by omega)]
    by_cases h1 : Jr (p 4) 0 ≤ i
    · have z := zgo X v0 hR hW v1 es hs h0 hb
      rw [if_pos h1, if_pos h1, pr, pr]
      exact ⟨z.1, z.2.1, zKp_s z.2.2.1, z.2.2.2⟩
    · rw [if_neg h1, if_neg h1, if_neg (show ¬ t < 0 from fun c => by have := z_le0.mp c; omega)]
      have f := zfill (Lc := Lc) (Lr := Lr) X hsq ht v0 hR hW hQ v1 es hs h0 ⟨i0, z_lt h1⟩
      have bb := zn_b hW.w
      have xv := zx bb.2.2.2.2.2.2.2 v0 v1
      have g := ih (i + Int32.ofInt 1) _ _ (x5 p q sp ln v i Jc Lc).2 (x192_18 p t s v i (((Jr (p 4) 5).toInt - (Jr (p 4) 6).toInt).toNat) Jr Lr).2 (zi_i h1 i0) f.1 f.2.1 (zKp_Q X hsq f.2.2.1 hQ) (by rw [f.2.2.2.1 3 (by omega)]; exact v1) (by rw [f.2.2.2.2.2 _ (by omega)]; exact es) ⟨hs.1, by rw [f.2.2.2.1 1 (by omega)]; exact hs.2⟩ f.2.2.2.2.1 (by rw [f.2.2.2.2.2 _ (by omega)]; exact hb)
      exact ⟨g.1, g.2.1, zKp_t f.2.2.1 g.2.2.1, fun j hj => (g.2.2.2 j hj).trans (f.2.2.2.1 j hj)⟩
theorem zset {p q : Nat → Nat} {sp ln T : Nat} {t v : Int32} {b : Int} {Jc Jr : Nat → Nat → Int32} {Lc Lr : Nat → Nat → Int64} (X : zX p q) (hsq : ∀ i, i < 17 → sp ≠ q i) (ht : t.toInt = (T : Nat)) (v0 : 0 ≤ v.toInt) (hR : zR q Jc (Jr (p 4))) (hW : zW (Jr (p 4)) b) (hQ : zRQ p sp ln T Jc Jr) (v1 : ¬ Jr (p 4) 3 ≤ v) (h0 : Jr (p 4) (10 + 7 * (Jr (p 4) (172 + 5 * v.toNatClampNeg + 0)).toNatClampNeg + 4) = 0) (hb : b ≤ (Jr (p 4) (172 + 5 * v.toNatClampNeg + 2)).toInt) :
    zR q (x4 p q sp ln v Jc Lc).1 ((x192 p t (Jr (p 4) (172 + 5 * v.toNatClampNeg + 0)) v Jr Lr).1 (p 4)) ∧ zW ((x192 p t (Jr (p 4) (172 + 5 * v.toNatClampNeg + 0)) v Jr Lr).1 (p 4)) b ∧ zKp p q sp Jc Jr (x4 p q sp ln v Jc Lc).1 (x192 p t (Jr (p 4) (172 + 5 * v.toNatClampNeg + 0)) v Jr Lr).1 ∧ (∀ j, j < 6 → (x192 p t (Jr (p 4) (172 + 5 * v.toNatClampNeg + 0)) v Jr Lr).1 (p 4) j = Jr (p 4) j) := by
  have bb := zn_b hW.w
  have xv := zx bb.2.2.2.2.2.2.2 v0 v1
  have vo := hW.a.vo _ xv.1
  unfold x4 x192
  rw [(zV hR hW.w v0 v1).2.2.1, zR_n hR (by omega)]
  exact zset_l X hsq ht v0 _ _ _ _ _ _ (by decide) hR hW hQ v1 rfl ⟨vo.1, vo.2.1⟩ h0 hb
/-- nobody moves a plank -/
theorem zsetN {p q : Nat → Nat} {v : Int32} {b : Int} {Jc Jr : Nat → Nat → Int32} {Lr : Nat → Nat → Int64} (X : zX p q) (v0 : 0 ≤ v.toInt) (hR : zR q Jc (Jr (p 4))) (hW : zW (Jr (p 4)) b) (v1 : ¬ Jr (p 4) 3 ≤ v) (h0 : Jr (p 4) (10 + 7 * (Jr (p 4) (172 + 5 * v.toNatClampNeg + 0)).toNatClampNeg + 4) = 0) (hb : b ≤ (Jr (p 4) (172 + 5 * v.toNatClampNeg + 2)).toInt) :
    zR q (x4N p q v Jc) ((x192 p (Int32.ofInt (-1)) (Jr (p 4) (172 + 5 * v.toNatClampNeg + 0)) v Jr Lr).1 (p 4)) ∧ zW ((x192 p (Int32.ofInt (-1)) (Jr (p 4) (172 + 5 * v.toNatClampNeg + 0)) v Jr Lr).1 (p 4)) b ∧ zKp p q 0 Jc Jr (x4N p q v Jc) (x192 p (Int32.ofInt (-1)) (Jr (p 4) (172 + 5 * v.toNatClampNeg + 0)) v Jr Lr).1 ∧ (∀ j, j < 6 → (x192 p (Int32.ofInt (-1)) (Jr (p 4) (172 + 5 * v.toNatClampNeg + 0)) v Jr Lr).1 (p 4) j = Jr (p 4) j) := by
  have pr : ∀ {P : Prop} [Decidable P] {A B : Nat → Nat → Int32} {L : Nat → Nat → Int64}, (if P then (A, L) else (B, L)).1 = (if P then A else B) := by
    intro P _ A B L
    split <;> rfl
  have bb := zn_b hW.w
  have xv := zx bb.2.2.2.2.2.2.2 v0 v1
  have vo := hW.a.vo _ xv.1
  have z := zgo X v0 hR hW v1 rfl ⟨vo.1, vo.2.1⟩ h0 hb
  have e : ∀ c i, (x192_3 p (Int32.ofInt (-1)) (Jr (p 4) (172 + 5 * v.toNatClampNeg + 0)) v c i Jr Lr).1 = (if x174 p (Jr (p 4) (172 + 5 * v.toNatClampNeg + 0)) Jr = 0 then Jr else (nt_u (nt_u (nt_u Jr (p 4) ((((Int32.ofInt 10) + ((Int32.ofInt 7) * (Jr (p 4) (172 + 5 * v.toNatClampNeg + 0)))) + (Int32.ofInt 4)).toNatClampNeg) (Int32.ofInt 1)) (p 4) ((((Int32.ofInt 10) + ((Int32.ofInt 7) * (Jr (p 4) (172 + 5 * v.toNatClampNeg + 0)))) + (Int32.ofInt 5)).toNatClampNeg) v) (p 4) ((((Int32.ofInt 172) + ((Int32.ofInt 5) * v)) + (Int32.ofInt 4)).toNatClampNeg) (Int32.ofInt 1))) := by
    intro c i
    cases c with
    | zero => rw [x192_3, pr]
    | succ c =>
      rw [x192_3]
      by_cases h1 : Jr (p 4) 0 ≤ i
      · rw [if_pos h1, pr]
      · rw [if_neg h1, if_pos (show Int32.ofInt (-1) < 0 from by decide), pr]
  unfold x4N x192
  rw [(zV hR hW.w v0 v1).2.2.1, e]
  exact z
/-! a day's end -/
theorem zday {p q : Nat → Nat} {b : Int} {Jc Jr : Nat → Nat → Int32} (X : zX p q) (hR : zR q Jc (Jr (p 4))) (hW : zW (Jr (p 4)) b) (h9 : (Jr (p 4) 4).toInt ≤ 900) :
    zR q (nt_u (nt_u Jc (q 0) 2 ((Jc (q 0) 2) + (Int32.ofInt 1))) (q 0) 3 (Int32.ofInt 0)) ((nt_u (nt_u Jr (p 4) 4 ((Jr (p 4) 4) + (Int32.ofInt 1))) (p 4) 6 (Int32.ofInt 0)) (p 4)) ∧ zW ((nt_u (nt_u Jr (p 4) 4 ((Jr (p 4) 4) + (Int32.ofInt 1))) (p 4) 6 (Int32.ofInt 0)) (p 4)) b ∧ zKp p q 0 Jc Jr (nt_u (nt_u Jc (q 0) 2 ((Jc (q 0) 2) + (Int32.ofInt 1))) (q 0) 3 (Int32.ofInt 0)) (nt_u (nt_u Jr (p 4) 4 ((Jr (p 4) 4) + (Int32.ofInt 1))) (p 4) 6 (Int32.ofInt 0)) ∧ ((nt_u (nt_u Jr (p 4) 4 ((Jr (p 4) 4) + (Int32.ofInt 1))) (p 4) 6 (Int32.ofInt 0)) (p 4) 4).toInt = (Jr (p 4) 4).toInt + 1 := by
  have d4 := hW.d.d4
  have e4 : (Jr (p 4) 4 + Int32.ofInt 1).toInt = (Jr (p 4) 4).toInt + 1 := by
    rw [Int32.toInt_add, show (Int32.ofInt 1).toInt = 1 from by decide, Int.bmod_eq_of_le (by omega) (by omega)]
  have er : (nt_u (nt_u Jr (p 4) 4 ((Jr (p 4) 4) + (Int32.ofInt 1))) (p 4) 6 (Int32.ofInt 0)) (p 4) = zu (zu (Jr (p 4)) 4 (Jr (p 4) 4 + Int32.ofInt 1)) 6 (Int32.ofInt 0) := by
    rw [zu_r, zu_r]
  refine ⟨?_, ?_, ⟨fun a _ h2 => ?_, fun a _ h2 => ?_⟩, ?_⟩
  · rw [er, zR_4 hR]
    exact zR_up X.hq (zR_up X.hq hR (by omega) (by omega) rfl) (by omega) (by omega) rfl
  · refine zW_day hW ?_ ?_ ?_ ?_
    · exact xr_up (xr_up hW.w (xr_any rfl)) (xr_any rfl)
    · rw [er, zu_k (by omega), zu_s, e4]
      omega
    · rw [er, zu_s]
      rfl
    · intro j a c
      rw [er, zu_k c, zu_k a]
  · rw [me_uo (h2 0 (by omega)), me_uo (h2 0 (by omega))]
  · rw [me_uo h2, me_uo h2]
  · rw [er, zu_k (by omega), zu_s, e4]
