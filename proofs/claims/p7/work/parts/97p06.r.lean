/-! an event, as the reference does it -/
theorem z_tn {x : Int32} (h : 0 ≤ x.toInt) : x.toInt = (x.toNatClampNeg : Nat) := by
  rw [zn_t]
  omega
def zc6 (j : Nat) : Prop := 10 ≤ j ∧ j < 52 ∧ (j - 10) % 7 = 6
theorem zh_r {p : Nat → Nat} {J : Nat → Nat → Int32} {v s pay part : Int32} (hw : xr_W (J (p 4))) (ha : zA (J (p 4))) (hv : 0 ≤ v.toInt ∧ ¬ J (p 4) 3 ≤ v) (es : x180 p v (Int32.ofInt 0) J = s) (ep : x180 p v (Int32.ofInt 3) J = pay) (ea : pay / (x170 p s J + Int32.ofInt 1) = part) (hl : zl (J (p 4)) s) : x191 p v J (p 4) = zE (zgn (J (p 4)) s pay part) pay s.toNatClampNeg v.toNatClampNeg (J (p 4)) := by
  have bb := zn_b hw
  have xv := zx bb.2.2.2.2.2.2.2 hv.1 hv.2
  have s0 : s = J (p 4) (172 + 5 * v.toNatClampNeg + 0) := by
    rw [← es]
    exact zx_v (k := 0) hv.1 (by omega) (by omega)
  have hvo := ha.vo _ xv.1
  rw [← s0] at hvo
  have si : s.toInt = s.toNatClampNeg := by rw [zn_t]; omega
  generalize he : J (p 4) = e at *
  have fin : ∀ (left : Int32) (J1 : Nat → Nat → Int32), (∀ j, ¬ zc6 j → J1 (p 4) j = e j) → (∀ o, o < 6 → J1 (p 4) (10 + 7 * o + 6) = e (10 + 7 * o + 6) + part * zk e s (fun x => x = Int32.ofInt (o : Int)) (zn e 2)) → left = pay - part * zk e s (fun _ => True) (zn e 2) → (nt_u (nt_u (nt_u (nt_u (nt_u J1 (p 4) ((((Int32.ofInt 10) + ((Int32.ofInt 7) * s)) + (Int32.ofInt 6)).toNatClampNeg) ((J1 (p 4) ((((Int32.ofInt 10) + ((Int32.ofInt 7) * s)) + (Int32.ofInt 6)).toNatClampNeg)) + left)) (p 4) 7 (((nt_u J1 (p 4) ((((Int32.ofInt 10) + ((Int32.ofInt 7) * s)) + (Int32.ofInt 6)).toNatClampNeg) ((J1 (p 4) ((((Int32.ofInt 10) + ((Int32.ofInt 7) * s)) + (Int32.ofInt 6)).toNatClampNeg)) + left)) (p 4) 7) + pay)) (p 4) ((((Int32.ofInt 10) + ((Int32.ofInt 7) * s)) + (Int32.ofInt 4)).toNatClampNeg) (Int32.ofInt 0)) (p 4) ((((Int32.ofInt 10) + ((Int32.ofInt 7) * s)) + (Int32.ofInt 5)).toNatClampNeg) (Int32.ofInt (-1))) (p 4) ((((Int32.ofInt 172) + ((Int32.ofInt 5) * v)) + (Int32.ofInt 4)).toNatClampNeg) (Int32.ofInt 2)) (p 4) = zE (zgn e s pay part) pay s.toNatClampNeg v.toNatClampNeg e := by
    intro left J1 h1 h2 h3
    rw [zx_s6 (by omega) (by omega), zx_s4 (by omega) (by omega), zx_s5 (by omega) (by omega), zx_v4 hv.1 (by omega), zu_r, zu_r, zu_r, zu_r, zu_r, zu_k (e := J1 (p 4)) (by omega), h1 7 (by unfold zc6; omega)]
    funext j
    unfold zE
    by_cases a1 : j = 10 + 7 * s.toNatClampNeg + 4
    · rw [if_pos a1, zu_k (by omega), zu_k (by omega), a1, zu_s]
      rfl
    · rw [if_neg a1]
      by_cases a2 : j = 10 + 7 * s.toNatClampNeg + 5
      · rw [if_pos a2, zu_k (by omega), a2, zu_s]
      · rw [if_neg a2]
        by_cases a3 : j = 172 + 5 * v.toNatClampNeg + 4
        · rw [if_pos a3, a3, zu_s]
          rfl
        · rw [if_neg a3, zu_k a3, zu_k a2, zu_k a1]
          by_cases a4 : j = 7
          · rw [if_pos a4, a4, zu_s]
          · rw [if_neg a4, zu_k a4]
            by_cases a5 : 10 ≤ j ∧ j < 52 ∧ (j - 10) % 7 = 6
            · rw [if_pos a5]
              have ej : j = 10 + 7 * ((j - 10) / 7) + 6 := by omega
              have o6 : (j - 10) / 7 < 6 := by omega
              have g := h2 _ o6
              rw [← ej] at g
              unfold zgn
              by_cases a6 : j = 10 + 7 * s.toNatClampNeg + 6
              · rw [if_pos ((Int32.toInt_inj.mp (by rw [xi_k (by omega)]; omega) : Int32.ofInt (((j - 10) / 7 : Nat) : Int) = s)), ← a6, zu_s, g, h3]
                grind
              · rw [zu_k a6, if_neg (fun c => a6 (by
                  have := congrArg Int32.toInt c
                  rw [xi_k (by omega)] at this
                  omega)), g]
                grind
            · rw [if_neg a5, zu_k (by omega), h1 j a5]
  unfold x191
  rw [es, ep, ea, he]
  refine x191_31_rule (I := fun c left i J1 => 0 ≤ i.toInt ∧ i.toInt ≤ (e 2).toInt ∧ (e 2).toInt - i.toInt ≤ c ∧ (∀ j, ¬ zc6 j → J1 (p 4) j = e j) ∧ (∀ o, o < 6 → J1 (p 4) (10 + 7 * o + 6) = e (10 + 7 * o + 6) + part * zk e s (fun x => x = Int32.ofInt (o : Int)) i.toNatClampNeg) ∧ left = pay - part * zk e s (fun _ => True) i.toNatClampNeg) (Q := fun J1 => J1 (p 4) = zE (zgn e s pay part) pay s.toNatClampNeg v.toNatClampNeg e) ?_ ?_ _ _ _ _ ?_
  · intro left i J1 h
    obtain ⟨a, b, c, d, g, k⟩ := h
    have ei : i.toNatClampNeg = zn e 2 := by rw [zn_t]; omega
    rw [ei] at g k
    exact fin left J1 d g k
  · intro c left i J1 h
    obtain ⟨a, b, cc, d, g, k⟩ := h
    have e2 : J1 (p 4) 2 = e 2 := d 2 (by unfold zc6; omega)
    rw [e2]
    by_cases h1 : e 2 ≤ i
    · rw [if_pos h1]
      have ei : i.toNatClampNeg = zn e 2 := by rw [zn_t]; have := z_ge.mp h1; omega
      rw [ei] at g k
      exact fin left J1 d g k
    · rw [if_neg h1]
      have x := zx bb.2.2.2.2.2.2.1 a h1
      have l24 : i.toNatClampNeg < 24 := by omega
      have i1 := zx_i h1 a
      have lt := z_lt h1
      have rd : ∀ k : Nat, k < 5 → x173 p i (Int32.ofInt (k : Int)) J1 = e (52 + 5 * i.toNatClampNeg + k) := by
        intro k hk
        rw [zx_p a (by omega) (by omega), d _ (by unfold zc6; omega)]
      have r1 : x173 p i (Int32.ofInt 1) J1 = _ := rd 1 (by omega)
      have r2 : x173 p i (Int32.ofInt 2) J1 = _ := rd 2 (by omega)
      have r3 : x173 p i (Int32.ofInt 3) J1 = _ := rd 3 (by omega)
      have r4 : x173 p i (Int32.ofInt 4) J1 = _ := rd 4 (by omega)
      rw [z_in r1 r3 r4 (hl _ x.1)]
      have zs : ∀ (P : Int32 → Prop) [DecidablePred P], zk e s P (i + Int32.ofInt 1).toNatClampNeg = zk e s P i.toNatClampNeg + (if e (52 + 5 * i.toNatClampNeg + 3) = s then if e (52 + 5 * i.toNatClampNeg + 1) ≤ 0 then 0 else if P (e (52 + 5 * i.toNatClampNeg + 2)) then 1 else 0 else 0) := by
        intro P _
        rw [i1, zk]
      have ow := ha.ow _ x.1
      by_cases h3 : e (52 + 5 * i.toNatClampNeg + 3) = s
      · simp only [if_pos h3] at zs ⊢
        by_cases h4 : e (52 + 5 * i.toNatClampNeg + 1) ≤ 0
        · simp only [if_pos h4] at zs ⊢
          rw [if_pos trivial]
          refine ⟨zi_i h1 a, by rw [lx_inc h1]; omega, lx_dec h1 cc, d, fun o ho => ?_, ?_⟩
          · rw [zs, g o ho]
            grind
          · rw [zs, k]
            grind
        · simp only [if_neg h4] at zs ⊢
          rw [if_neg (show ¬ (1 : Int32) = 0 from by decide), r2]
          have ok : (e (52 + 5 * i.toNatClampNeg + 2)).toInt = (e (52 + 5 * i.toNatClampNeg + 2)).toNatClampNeg := z_tn ow.1
          have o6 : (e (52 + 5 * i.toNatClampNeg + 2)).toNatClampNeg < 6 := by omega
          rw [zx_s6 ow.1 (by omega)]
          refine ⟨zi_i h1 a, by rw [lx_inc h1]; omega, lx_dec h1 cc, fun j hj => ?_, fun o ho => ?_, ?_⟩
          · rw [me_uk (by unfold zc6 at hj; omega), d j hj]
          · rw [zs]
            by_cases c1 : o = (e (52 + 5 * i.toNatClampNeg + 2)).toNatClampNeg
            · rw [if_pos ((zi_n (by omega)).mpr (by rw [ok, c1])), c1, me_us, g _ o6]
              grind
            · rw [if_neg (fun c2 => c1 (by have := (zi_n (by omega)).mp c2; omega)), me_uk (by omega), g o ho]
              grind
          · rw [zs, if_pos trivial, k]
            grind
      · simp only [if_neg h3] at zs ⊢
        rw [if_pos trivial]
        refine ⟨zi_i h1 a, by rw [lx_inc h1]; omega, lx_dec h1 cc, d, fun o ho => ?_, ?_⟩
        · rw [zs, g o ho]
          grind
        · rw [zs, k]
          grind
  · refine ⟨by decide, by rw [show (Int32.ofInt 0).toInt = 0 from by decide]; omega, lx_beg (by decide), fun j _ => by rw [he], fun o ho => ?_, ?_⟩
    · rw [show (Int32.ofInt 0).toNatClampNeg = 0 from rfl, zk, he]
      grind
    · rw [show (Int32.ofInt 0).toNatClampNeg = 0 from rfl, zk]
      grind
/-! .. and the class -/
theorem zv_ag {e f : Nat → Int32} {j : Nat} (h : ∀ i, i < 4 → f i = e i) : zv f j ↔ zv e j := by
  unfold zv
  rw [zn_ag (h 0 (by omega)), zn_ag (h 1 (by omega)), zn_ag (h 2 (by omega)), zn_ag (h 3 (by omega))]
theorem zsm_mul {f : Nat → Int32} {m : Int32} : ∀ n, zsm (fun i => m * f i) n = m * zsm f n := by
  intro n
  induction n with
  | zero =>
    rw [zsm, zsm]
    grind
  | succ n ih =>
    rw [zsm, zsm, ih]
    grind
def zG (e : Nat → Int32) (s part : Int32) (n : Nat) : Nat → Int32 := fun j => if 10 ≤ j ∧ j < 52 ∧ (j - 10) % 7 = 6 ∧ (j - 10) / 7 < n then e j + part * zk e s (fun x => x = Int32.ofInt (((j - 10) / 7 : Nat) : Int)) (zn e 2) else e j
theorem zG_o {e : Nat → Int32} {s part : Int32} {n j : Nat} (h : ¬ zc6 j) : zG e s part n j = e j := if_neg (fun c => h ⟨c.1, c.2.1, c.2.2.1⟩)
theorem zh_c {q : Nat → Nat} {J : Nat → Nat → Int32} {e : Nat → Int32} {s pay part : Int32} {v : Nat} (hq : zq q) (hR : zR q J e) (hw : xr_W e) (ha : zA e) (hs : 0 ≤ s.toInt ∧ s.toInt < (e 1).toInt) (hv : v < zn e 3) (ho : (e (10 + 7 * s.toNatClampNeg + 5)).toInt = v) (ep : e (172 + 5 * v + 3) = pay) (ea : pay / (x66 q s J + Int32.ofInt 1) = part) : zR q (x3 q s J) (zE (zgn e s pay part) pay s.toNatClampNeg v e) := by
  have bb := zn_b hw
  have si : s.toInt = s.toNatClampNeg := by rw [zn_t]; omega
  have sn : s.toNatClampNeg < zn e 1 := by omega
  have nv := z_i3 ho
  have e12 : J (q 12) s.toNatClampNeg = e (10 + 7 * s.toNatClampNeg + 5) := zR_s hR sn (by omega) (by omega) (by omega) (zc_s5 _ (by omega))
  have e9 : J (q 9) v = pay := by rw [zR_v hR hv (by omega) (by omega) (zc_v3 _ (by omega)), ep]
  have fin : ∀ (left : Int32) (J1 : Nat → Nat → Int32), zR q J1 (zG e s part (zn e 1)) → left = pay - zsm (fun o => part * zk e s (fun x => x = Int32.ofInt (o : Int)) (zn e 2)) (zn e 1) → zR q (nt_u (nt_u (nt_u (nt_u (nt_u J1 (q 11) s.toNatClampNeg ((J1 (q 11) s.toNatClampNeg) + left)) (q 0) 5 ((J1 (q 0) 5) + pay)) (q 16) (e (10 + 7 * s.toNatClampNeg + 5)).toNatClampNeg (Int32.ofInt 2)) (q 10) s.toNatClampNeg (Int32.ofInt 0)) (q 12) s.toNatClampNeg (Int32.ofInt (-1))) (zE (zgn e s pay part) pay s.toNatClampNeg v e) := by
    intro left J1 h1 h2
    have n1 : zn (zG e s part (zn e 1)) 1 = zn e 1 := zn_ag (zG_o (by unfold zc6; omega))
    have e11 : J1 (q 11) s.toNatClampNeg = zG e s part (zn e 1) (10 + 7 * s.toNatClampNeg + 6) := zR_s h1 (by rw [n1]; exact sn) (by omega) (by omega) (by omega) (zc_s6 _ (by omega))
    rw [e11, zR_7 h1, nv]
    have z := zR_up (v := Int32.ofInt (-1)) hq (zR_up (v := Int32.ofInt 0) hq (zR_up (v := Int32.ofInt 2) hq (zR_up (v := zG e s part (zn e 1) 7 + pay) hq (zR_up (v := zG e s part (zn e 1) (10 + 7 * s.toNatClampNeg + 6) + left) hq h1 (by omega) (by omega) (zc_s6 s.toNatClampNeg (by omega))) (j := 7) (by omega) (by omega) rfl) (by omega) (by omega) (zc_v4 v (by omega))) (by omega) (by omega) (zc_s4 s.toNatClampNeg (by omega))) (by omega) (by omega) (zc_s5 s.toNatClampNeg (by omega))
    have er : ∀ j, zv e j → zu (zu (zu (zu (zu (zG e s part (zn e 1)) (10 + 7 * s.toNatClampNeg + 6) (zG e s part (zn e 1) (10 + 7 * s.toNatClampNeg + 6) + left)) 7 (zG e s part (zn e 1) 7 + pay)) (172 + 5 * v + 4) (Int32.ofInt 2)) (10 + 7 * s.toNatClampNeg + 4) (Int32.ofInt 0)) (10 + 7 * s.toNatClampNeg + 5) (Int32.ofInt (-1)) j = zE (zgn e s pay part) pay s.toNatClampNeg v e j := by
      intro j hj
      unfold zE
      by_cases a1 : j = 10 + 7 * s.toNatClampNeg + 4
      · rw [if_pos a1, zu_k (by omega), a1, zu_s]
        rfl
      · rw [if_neg a1]
        by_cases a2 : j = 10 + 7 * s.toNatClampNeg + 5
        · rw [if_pos a2, a2, zu_s]
        · rw [if_neg a2, zu_k a2, zu_k a1]
          by_cases a3 : j = 172 + 5 * v + 4
          · rw [if_pos a3, a3, zu_s]
            rfl
          · rw [if_neg a3, zu_k a3]
            by_cases a4 : j = 7
            · rw [if_pos a4, a4, zu_s, zG_o (by unfold zc6; omega)]
            · rw [if_neg a4, zu_k a4]
              by_cases a5 : 10 ≤ j ∧ j < 52 ∧ (j - 10) % 7 = 6
              · rw [if_pos a5]
                have ej : j = 10 + 7 * ((j - 10) / 7) + 6 := by omega
                have on1 : (j - 10) / 7 < zn e 1 := by
                  unfold zv at hj
                  omega
                have g : zG e s part (zn e 1) j = e j + part * zk e s (fun x => x = Int32.ofInt (((j - 10) / 7 : Nat) : Int)) (zn e 2) := if_pos ⟨a5.1, a5.2.1, a5.2.2, on1⟩
                unfold zgn
                by_cases a6 : j = 10 + 7 * s.toNatClampNeg + 6
                · rw [if_pos ((Int32.toInt_inj.mp (by rw [xi_k (by omega)]; omega) : Int32.ofInt (((j - 10) / 7 : Nat) : Int) = s)), ← a6, zu_s, g, h2, zsm_mul, zk_sm ha hw _ (by omega)]
                  grind
                · rw [zu_k a6, if_neg (fun c => a6 (by
                    have := congrArg Int32.toInt c
                    rw [xi_k (by omega)] at this
                    omega)), g]
                  grind
              · rw [if_neg a5, zu_k (by omega), zG_o a5]
    have c0 : ∀ i, i < 4 → zu (zu (zu (zu (zu (zG e s part (zn e 1)) (10 + 7 * s.toNatClampNeg + 6) (zG e s part (zn e 1) (10 + 7 * s.toNatClampNeg + 6) + left)) 7 (zG e s part (zn e 1) 7 + pay)) (172 + 5 * v + 4) (Int32.ofInt 2)) (10 + 7 * s.toNatClampNeg + 4) (Int32.ofInt 0)) (10 + 7 * s.toNatClampNeg + 5) (Int32.ofInt (-1)) i = e i ∧ zE (zgn e s pay part) pay s.toNatClampNeg v e i = e i := by
      intro i hi
      have t := er i (Or.inl (by omega))
      have t2 : zE (zgn e s pay part) pay s.toNatClampNeg v e i = e i := by
        unfold zE
        rw [if_neg (by omega), if_neg (by omega), if_neg (by omega), if_neg (by omega), if_neg (by omega)]
      exact ⟨t.trans t2, t2⟩
    refine ⟨fun j hj => ?_, ?_⟩
    · have hj' : zv e j := (zv_ag (fun i hi => (c0 i hi).2)).mp hj
      rw [← er j hj']
      exact z.1 j ((zv_ag (fun i hi => (c0 i hi).1)).mpr hj')
    · rw [z.2, (c0 0 (by omega)).1, (c0 0 (by omega)).2]
  unfold x3
  rw [e12, nv, e9, ea, zR_n hR (by omega)]
  have nv' : v = (e (10 + 7 * s.toNatClampNeg + 5)).toNatClampNeg := nv.symm
  refine x3_34_rule (I := fun c left i J1 => 0 ≤ i.toInt ∧ i.toInt ≤ (e 1).toInt ∧ (e 1).toInt - i.toInt ≤ c ∧ zR q J1 (zG e s part i.toNatClampNeg) ∧ left = pay - zsm (fun o => part * zk e s (fun x => x = Int32.ofInt (o : Int)) (zn e 2)) i.toNatClampNeg) (Q := fun J1 => zR q J1 (zE (zgn e s pay part) pay s.toNatClampNeg v e)) ?_ ?_ _ _ _ _ ?_
  · intro left i J1 h
    obtain ⟨a, b, c, d, g⟩ := h
    have ei : i.toNatClampNeg = zn e 1 := by rw [zn_t]; omega
    rw [ei] at d g
    exact fin left J1 d g
  · intro c left i J1 h
    obtain ⟨a, b, cc, d, g⟩ := h
    rw [show J1 (q 1) 1 = e 1 from (zR_n d (by omega)).trans (zG_o (by unfold zc6; omega))]
    by_cases h1 : e 1 ≤ i
    · rw [if_pos h1]
      have ei : i.toNatClampNeg = zn e 1 := by rw [zn_t]; have := z_ge.mp h1; omega
      rw [ei] at d g
      exact fin left J1 d g
    · rw [if_neg h1]
      have x := zx bb.2.2.2.2.2.1 a h1
      have i1 := zx_i h1 a
      have lt := z_lt h1
      have n1 : zn (zG e s part i.toNatClampNeg) 1 = zn e 1 := zn_ag (zG_o (by unfold zc6; omega))
      have n2 : zn (zG e s part i.toNatClampNeg) 2 = zn e 2 := zn_ag (zG_o (by unfold zc6; omega))
      have wG : xr_W (zG e s part i.toNatClampNeg) := by
        intro j
        by_cases c6 : zc6 j
        · have : xr_b j = (-2147483648, 2147483647) := by
            have ej : j = 10 + 7 * ((j - 10) / 7) + 6 := by unfold zc6 at c6; omega
            rw [ej]
            exact xr_bs (by unfold zc6 at c6; omega) (by omega) (by omega)
          exact xr_any this
        · rw [zG_o c6]
          exact hw j
      have e75 : x75 q s i J1 = zk e s (fun x => x = Int32.ofInt ((i.toNatClampNeg : Nat) : Int)) (zn e 2) := by
        rw [zk_75 d wG, n2]
        have ei : Int32.ofInt ((i.toNatClampNeg : Nat) : Int) = i := Int32.toInt_inj.mp (by rw [xi_k (by omega)]; omega)
        rw [ei]
        exact zk_ag (fun n hn => ⟨zG_o (by unfold zc6; omega), zG_o (by unfold zc6; omega), zG_o (by unfold zc6; omega)⟩) _ (by omega)
      have e11 : J1 (q 11) i.toNatClampNeg = e (10 + 7 * i.toNatClampNeg + 6) := by
        rw [zR_s d (by rw [n1]; exact x.1) (by omega) (by omega) (by omega) (zc_s6 _ (by omega))]
        exact if_neg (by omega)
      rw [e75, e11]
      refine ⟨zi_i h1 a, by rw [lx_inc h1]; omega, lx_dec h1 cc, ?_, ?_⟩
      · rw [i1]
        have z := zR_up (v := e (10 + 7 * i.toNatClampNeg + 6) + part * zk e s (fun x => x = Int32.ofInt ((i.toNatClampNeg : Nat) : Int)) (zn e 2)) hq d (by omega) (by omega) (zc_s6 i.toNatClampNeg (by omega))
        have ez : zu (zG e s part i.toNatClampNeg) (10 + 7 * i.toNatClampNeg + 6) (e (10 + 7 * i.toNatClampNeg + 6) + part * zk e s (fun x => x = Int32.ofInt ((i.toNatClampNeg : Nat) : Int)) (zn e 2)) = zG e s part (i.toNatClampNeg + 1) := by
          funext j
          by_cases c1 : j = 10 + 7 * i.toNatClampNeg + 6
          · rw [c1, zu_s]
            have : (10 + 7 * i.toNatClampNeg + 6 - 10) / 7 = i.toNatClampNeg := by omega
            unfold zG
            rw [if_pos (by omega), this]
          · rw [zu_k c1]
            unfold zG
            by_cases c2 : 10 ≤ j ∧ j < 52 ∧ (j - 10) % 7 = 6 ∧ (j - 10) / 7 < i.toNatClampNeg
            · rw [if_pos c2, if_pos (by omega)]
            · rw [if_neg c2, if_neg (by omega)]
        rw [ez] at z
        exact z
      · rw [i1, zsm, g]
        grind
  · refine ⟨by decide, by rw [show (Int32.ofInt 0).toInt = 0 from by decide]; omega, lx_beg (by decide), ?_, ?_⟩
    · have : zG e s part (Int32.ofInt 0).toNatClampNeg = e := by
        funext j
        exact if_neg (fun c => by
          have c := c.2.2.2
          rw [show (Int32.ofInt 0).toNatClampNeg = 0 from rfl] at c
          omega)
      rw [this]
      exact hR
    · rw [show (Int32.ofInt 0).toNatClampNeg = 0 from rfl, zsm]
      grind
