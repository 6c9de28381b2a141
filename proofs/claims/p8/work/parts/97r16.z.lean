/-! most, dealt, willDo, both sides -/
theorem z_has {a b : Int32} : x14 a b = x209 a b := by
  have h := sx_and_ok (x := a >>> (b &&& 31)) (y := Int32.ofInt 1) (by decide)
  have e : (Int32.ofInt 1).toInt = 1 := by decide
  unfold x14 x209
  by_cases c : (a >>> (b &&& 31)) &&& Int32.ofInt 1 = 0
  · rw [if_pos c, c, if_neg (show ¬ (0 : Int32) = Int32.ofInt 1 from by decide)]
  · have n : ((a >>> (b &&& 31)) &&& Int32.ofInt 1).toInt ≠ 0 := fun x => c (Int32.toInt_inj.mp (x.trans (by decide)))
    have d : (a >>> (b &&& 31)) &&& Int32.ofInt 1 = Int32.ofInt 1 := Int32.toInt_inj.mp (by omega)
    rw [if_neg c, if_pos d]
theorem z_h01 {a b : Int32} : x209 a b = Int32.ofInt 0 ∨ x209 a b = Int32.ofInt 1 := by
  unfold x209
  split
  · exact Or.inr rfl
  · exact Or.inl rfl
/-- the counts that look makes -/
theorem zfK_l {p : Nat → Nat} {v : Int32} : ∀ (c : Nat) (i : Int32) (J : Nat → Nat → Int32), 0 ≤ i.toInt → 4 - i.toInt ≤ c → (∀ j, i.toNatClampNeg ≤ j → j < 4 → x238K_5 p v (Int32.ofNat 4) c i J (p 29) j = v) ∧ (∀ j, j < i.toNatClampNeg → x238K_5 p v (Int32.ofNat 4) c i J (p 29) j = J (p 29) j) := by
  intro c
  induction c with
  | zero =>
    intro i J h hc
    have t := z_tn h
    exact ⟨fun j a b => by omega, fun j a => rfl⟩
  | succ c ih =>
    intro i J h hc
    have t := z_tn h
    rw [x238K_5]
    by_cases h1 : Int32.ofNat 4 ≤ i
    · rw [if_pos h1]
      have h1 := z_ge.mp h1
      rw [show (Int32.ofNat 4).toInt = 4 from by decide] at h1
      exact ⟨fun j a b => by omega, fun j a => rfl⟩
    · rw [if_neg h1]
      have l := z_lt h1
      rw [show (Int32.ofNat 4).toInt = 4 from by decide] at l
      have hc' : (Int32.ofNat 4).toInt - i.toInt ≤ (c + 1 : Nat) := by
        rw [show (Int32.ofNat 4).toInt = 4 from by decide]
        exact hc
      have d := lx_dec h1 hc'
      rw [show (Int32.ofNat 4).toInt = 4 from by decide] at d
      have z := ih (i + Int32.ofInt 1) (nt_u J (p 29) i.toNatClampNeg v) (xi_nn h1 h) d
      have i1 : (i + Int32.ofInt 1).toNatClampNeg = i.toNatClampNeg + 1 := by
        rw [zn_t, zn_t, lx_inc h1]
        omega
      rw [i1] at z
      refine ⟨fun j a b => ?_, fun j a => ?_⟩
      · by_cases e : j = i.toNatClampNeg
        · rw [e, z.2 _ (by omega), me_us]
        · exact z.1 j (by omega) b
      · rw [z.2 j (by omega), me_uk (by omega)]
theorem zfK {p : Nat → Nat} {v : Int32} {J : Nat → Nat → Int32} {j : Nat} (hj : j < 4) : x238K p v J (p 29) j = v := (zfK_l (v := v) ((Int32.ofNat 4).toNatClampNeg) (Int32.ofInt 0) J (by decide) (by decide)).1 j (Nat.zero_le _) hj
theorem zfS_l {p : Nat → Nat} {v : Int32} : ∀ (c : Nat) (i : Int32) (J : Nat → Nat → Int32), 0 ≤ i.toInt → 4 - i.toInt ≤ c → (∀ j, i.toNatClampNeg ≤ j → j < 4 → x238S_5 p v (Int32.ofNat 4) c i J (p 30) j = v) ∧ (∀ j, j < i.toNatClampNeg → x238S_5 p v (Int32.ofNat 4) c i J (p 30) j = J (p 30) j) := by
  intro c
  induction c with
  | zero =>
    intro i J h hc
    have t := z_tn h
    exact ⟨fun j a b => by omega, fun j a => rfl⟩
  | succ c ih =>
    intro i J h hc
    have t := z_tn h
    rw [x238S_5]
    by_cases h1 : Int32.ofNat 4 ≤ i
    · rw [if_pos h1]
      have h1 := z_ge.mp h1
      rw [show (Int32.ofNat 4).toInt = 4 from by decide] at h1
      exact ⟨fun j a b => by omega, fun j a => rfl⟩
    · rw [if_neg h1]
      have l := z_lt h1
      rw [show (Int32.ofNat 4).toInt = 4 from by decide] at l
      have hc' : (Int32.ofNat 4).toInt - i.toInt ≤ (c + 1 : Nat) := by
        rw [show (Int32.ofNat 4).toInt = 4 from by decide]
        exact hc
      have d := lx_dec h1 hc'
      rw [show (Int32.ofNat 4).toInt = 4 from by decide] at d
      have z := ih (i + Int32.ofInt 1) (nt_u J (p 30) i.toNatClampNeg v) (xi_nn h1 h) d
      have i1 : (i + Int32.ofInt 1).toNatClampNeg = i.toNatClampNeg + 1 := by
        rw [zn_t, zn_t, lx_inc h1]
        omega
      rw [i1] at z
      refine ⟨fun j a b => ?_, fun j a => ?_⟩
      · by_cases e : j = i.toNatClampNeg
        · rw [e, z.2 _ (by omega), me_us]
        · exact z.1 j (by omega) b
      · rw [z.2 j (by omega), me_uk (by omega)]
theorem zfS {p : Nat → Nat} {v : Int32} {J : Nat → Nat → Int32} {j : Nat} (hj : j < 4) : x238S p v J (p 30) j = v := (zfS_l (v := v) ((Int32.ofNat 4).toNatClampNeg) (Int32.ofInt 0) J (by decide) (by decide)).1 j (Nat.zero_le _) hj
theorem zlk_l {p : Nat → Nat} {Jr : Nat → Nat → Int32} {b : Int} {k : Nat} (hp : zpd p) (hW : zW (Jr (p 4)) b) (hk : k < 4) : ∀ (c : Nat) (i : Int32) (J : Nat → Nat → Int32), 0 ≤ i.toInt → zR (fun i => p (31 + i)) J (Jr (p 4)) → x12F_31 p c i J (p 29) k = x210_4 p (Int32.ofInt (k : Int)) Jr c (J (p 29) k) i ∧ ∀ w, x12F_31 p c i J (p 30) k = x225_55 p w (Int32.ofInt (k : Int)) Jr c (J (p 30) k) i := by
  have n3 : p 29 ≠ p 30 := hp 29 30 (by omega) (by omega) (by omega)
  have o10 : ¬ Int32.ofInt 1 = 0 := by decide
  have o00 : Int32.ofInt 0 = 0 := rfl
  intro c
  induction c with
  | zero => intro i J h hR; exact ⟨rfl, fun _ => rfl⟩
  | succ c ih =>
    intro i J h hR
    have e2 : J (p 32) 2 = Jr (p 4) 2 := zR_n hR (i := 2) (by omega)
    by_cases h1 : Jr (p 4) 2 ≤ i
    · refine ⟨?_, fun w => ?_⟩
      · rw [x12F_31, x210_4, e2, if_pos h1, if_pos h1]
      · rw [x12F_31, x225_55, e2, if_pos h1, if_pos h1]
    · obtain ⟨hn, hi, c0, c1, c2, c3, c4, r0, r1, r2, r3, r4⟩ := zP hR hW.w h h1
      have c0 : J (p 34) i.toNatClampNeg = Jr (p 4) (52 + 5 * i.toNatClampNeg + 0) := c0
      have c1 : J (p 44) i.toNatClampNeg = Jr (p 4) (52 + 5 * i.toNatClampNeg + 1) := c1
      have c4 : J (p 46) i.toNatClampNeg = Jr (p 4) (52 + 5 * i.toNatClampNeg + 4) := c4
      have kn := hW.a.kn _ hn
      obtain ⟨K, eK⟩ : ∃ K, Jr (p 4) (52 + 5 * i.toNatClampNeg + 0) = K := ⟨_, rfl⟩
      obtain ⟨rt, er⟩ : ∃ rt, Jr (p 4) (52 + 5 * i.toNatClampNeg + 1) = rt := ⟨_, rfl⟩
      obtain ⟨lo, el⟩ : ∃ lo, Jr (p 4) (52 + 5 * i.toNatClampNeg + 4) = lo := ⟨_, rfl⟩
      rw [eK] at c0 r0 kn
      rw [er] at c1 r1
      rw [el] at c4 r4
      have ek : K = Int32.ofInt (k : Int) ↔ K.toNatClampNeg = k := by
        rw [zi_n (by omega : k < 1000), zn_t]
        omega
      have nx := zi_i h1 h
      have s172 : ∀ y, x172 p i Jr = y ↔ (if rt ≤ 0 then Int32.ofInt 0 else if lo = 0 then Int32.ofInt 1 else Int32.ofInt 0) = y := fun y => by
        unfold x172
        rw [r1, r4]
      by_cases l : lo = 0
      · have R' : ∀ x y : Int32, zR (fun i => p (31 + i)) (nt_u (nt_u J (p 29) K.toNatClampNeg x) (p 30) K.toNatClampNeg y) (Jr (p 4)) := fun x y => zR_aj (fun j hj => (me_uo (hp (31 + j) 30 (by omega) (by omega) (by omega))).trans (me_uo (hp (31 + j) 29 (by omega) (by omega) (by omega)))) hR
        by_cases r : rt ≤ 0
        · obtain ⟨z1, z2⟩ := ih (i + Int32.ofInt 1) _ nx (R' (J (p 29) K.toNatClampNeg + Int32.ofInt 1) (J (p 30) K.toNatClampNeg + Int32.ofInt 0))
          refine ⟨?_, fun w => ?_⟩
          · rw [x12F_31, x210_4, e2, if_neg h1, if_neg h1, c4, if_pos l, c1, if_pos r, c0, z1, r0, r4, me_uo n3]
            by_cases e : K = Int32.ofInt (k : Int)
            · rw [if_pos e, if_pos l, ek.mp e, me_us]
            · rw [if_neg e, me_uk (fun x => e (ek.mpr x.symm)), z_add0]
          · have s : x172 p i Jr = 0 := (s172 _).mpr (by rw [if_pos r, o00])
            rw [x12F_31, x225_55, e2, if_neg h1, if_neg h1, c4, if_pos l, c1, if_pos r, c0, z2 w, if_pos s, z_add0, z_add0]
            by_cases e : K.toNatClampNeg = k
            · rw [e, me_us]
            · rw [me_uk (fun x => e x.symm), me_uo (Ne.symm n3)]
        · obtain ⟨z1, z2⟩ := ih (i + Int32.ofInt 1) _ nx (R' (J (p 29) K.toNatClampNeg + Int32.ofInt 1) (J (p 30) K.toNatClampNeg + Int32.ofInt 1))
          refine ⟨?_, fun w => ?_⟩
          · rw [x12F_31, x210_4, e2, if_neg h1, if_neg h1, c4, if_pos l, c1, if_neg r, c0, z1, r0, r4, me_uo n3]
            by_cases e : K = Int32.ofInt (k : Int)
            · rw [if_pos e, if_pos l, ek.mp e, me_us]
            · rw [if_neg e, me_uk (fun x => e (ek.mpr x.symm)), z_add0]
          · have s : x172 p i Jr = Int32.ofInt 1 := (s172 _).mpr (by rw [if_neg r, if_pos l])
            rw [x12F_31, x225_55, e2, if_neg h1, if_neg h1, c4, if_pos l, c1, if_neg r, c0, z2 w, if_neg (show ¬ x172 p i Jr = 0 from by rw [s]; exact o10), r0]
            by_cases e : K = Int32.ofInt (k : Int)
            · rw [if_pos e, ek.mp e, me_us]
            · rw [if_neg e, me_uk (fun x => e (ek.mpr x.symm)), me_uo (Ne.symm n3), z_add0]
      · obtain ⟨z1, z2⟩ := ih (i + Int32.ofInt 1) J nx hR
        refine ⟨?_, fun w => ?_⟩
        · rw [x12F_31, x210_4, e2, if_neg h1, if_neg h1, c4, if_neg l, z1, r0, r4]
          by_cases e : K = Int32.ofInt (k : Int)
          · rw [if_pos e, if_neg l, z_add0]
          · rw [if_neg e, z_add0]
        · have s : x172 p i Jr = 0 := (s172 _).mpr (by rw [if_neg l, o00]; split <;> rfl)
          rw [x12F_31, x225_55, e2, if_neg h1, if_neg h1, c4, if_neg l, z2 w, if_pos s, z_add0]
theorem zlk_R {p : Nat → Nat} {Jc : Nat → Nat → Int32} {e : Nat → Int32} (hp : zpd p) (hR : zR (fun i => p (31 + i)) Jc e) : zR (fun i => p (31 + i)) (x12F p Jc) e := zR_aj (fun j hj => x12F_frJ (hp (31 + j) 29 (by omega) (by omega) (by omega)) (hp (31 + j) 30 (by omega) (by omega) (by omega))) hR
theorem zlk {p : Nat → Nat} {Jc Jr : Nat → Nat → Int32} {b : Int} {k : Nat} (hp : zpd p) (hR : zR (fun i => p (31 + i)) Jc (Jr (p 4))) (hW : zW (Jr (p 4)) b) (hk : k < 4) : x12F p Jc (p 29) k = x210 p (Int32.ofInt (k : Int)) Jr ∧ ∀ w, x12F p Jc (p 30) k = x225_55 p w (Int32.ofInt (k : Int)) Jr ((Jr (p 4) 2).toNatClampNeg) (Int32.ofInt 0) (Int32.ofInt 0) := by
  have n3 : p 29 ≠ p 30 := hp 29 30 (by omega) (by omega) (by omega)
  have R0 : zR (fun i => p (31 + i)) (x238S p (Int32.ofInt 0) (x238K p (Int32.ofInt 0) Jc)) (Jr (p 4)) := zR_aj (fun j hj => (x238S_frJ (hp (31 + j) 30 (by omega) (by omega) (by omega))).trans (x238K_frJ (hp (31 + j) 29 (by omega) (by omega) (by omega)))) hR
  have e2 : x238S p (Int32.ofInt 0) (x238K p (Int32.ofInt 0) Jc) (p 32) 2 = Jr (p 4) 2 := zR_n R0 (i := 2) (by omega)
  have z := zlk_l hp hW hk ((Jr (p 4) 2).toNatClampNeg) (Int32.ofInt 0) _ (by decide) R0
  have k29 : x238S p (Int32.ofInt 0) (x238K p (Int32.ofInt 0) Jc) (p 29) k = Int32.ofInt 0 := (congrFun (x238S_frJ n3) k).trans (zfK hk)
  rw [k29, zfS hk] at z
  unfold x12F x210
  rw [e2]
  exact z
/-- pay -/
theorem zq_20l {p : Nat → Nat} {J Jr : Nat → Nat → Int32} {s : Int32} (hR : zR (fun i => p (31 + i)) J (Jr (p 4))) (hW : xr_W (Jr (p 4))) : ∀ (c : Nat) (a i : Int32), 0 ≤ i.toInt → x20_4 p s J c a i = x213_4 p s Jr c a i := by
  intro c
  induction c with
  | zero => intro a i h; rfl
  | succ c ih =>
    intro a i h
    rw [x20_4, x213_4, show J (p 32) 3 = Jr (p 4) 3 from zR_n hR (i := 3) (by omega)]
    by_cases h1 : Jr (p 4) 3 ≤ i
    · rw [if_pos h1, if_pos h1]
    · obtain ⟨hn, hi, v0, v1, v2, v3, v4, u0, u1, u2, u3, u4⟩ := zV hR hW h h1
      have v3 : J (p 40) i.toNatClampNeg = Jr (p 4) (172 + 5 * i.toNatClampNeg + 3) := v3
      rw [if_neg h1, if_neg h1, z_has, v3, u3, ih _ _ (zi_i h1 h), ih _ _ (zi_i h1 h), z_add0]
theorem zq_20 {p : Nat → Nat} {J Jr : Nat → Nat → Int32} {s : Int32} (hR : zR (fun i => p (31 + i)) J (Jr (p 4))) (hW : xr_W (Jr (p 4))) : x20 p s J = x213 p s Jr := by
  unfold x20 x213
  rw [show J (p 32) 3 = Jr (p 4) 3 from zR_n hR (i := 3) (by omega)]
  exact zq_20l hR hW _ _ _ (by decide)
theorem zq_25l {p : Nat → Nat} {J Jr : Nat → Nat → Int32} {s : Int32} (hR : zR (fun i => p (31 + i)) J (Jr (p 4))) (hW : xr_W (Jr (p 4))) : ∀ (c : Nat) (a i : Int32), 0 ≤ i.toInt → x25_4 p s J c a i = x224_4 p s Jr c a i := by
  intro c
  induction c with
  | zero => intro a i h; rfl
  | succ c ih =>
    intro a i h
    rw [x25_4, x224_4, show J (p 32) 3 = Jr (p 4) 3 from zR_n hR (i := 3) (by omega), show J (p 31) 2 = Jr (p 4) 4 from zR_4 hR]
    by_cases h1 : Jr (p 4) 3 ≤ i
    · rw [if_pos h1, if_pos h1]
    · obtain ⟨hn, hi, v0, v1, v2, v3, v4, u0, u1, u2, u3, u4⟩ := zV hR hW h h1
      have v0 : J (p 37) i.toNatClampNeg = Jr (p 4) (172 + 5 * i.toNatClampNeg + 0) := v0
      have v1 : J (p 38) i.toNatClampNeg = Jr (p 4) (172 + 5 * i.toNatClampNeg + 1) := v1
      have v3 : J (p 40) i.toNatClampNeg = Jr (p 4) (172 + 5 * i.toNatClampNeg + 3) := v3
      rw [if_neg h1, if_neg h1, z_has, v0, v1, v3, u0, u1, u3, ih _ _ (zi_i h1 h), ih _ _ (zi_i h1 h), z_add0]
theorem zq_25 {p : Nat → Nat} {J Jr : Nat → Nat → Int32} {s : Int32} (hR : zR (fun i => p (31 + i)) J (Jr (p 4))) (hW : xr_W (Jr (p 4))) : x25 p s J = x224 p s Jr := by
  unfold x25 x224
  rw [show J (p 32) 3 = Jr (p 4) 3 from zR_n hR (i := 3) (by omega)]
  exact zq_25l hR hW _ _ _ (by decide)
