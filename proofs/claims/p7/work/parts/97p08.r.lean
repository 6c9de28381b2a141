/-! homecoming: the whole -/
theorem zW_home {e f : Nat → Int32} {b : Int} {n v : Nat} (hW : zW e b) (hn : n < zn e 1) (h1 : e (10 + 7 * n + 4) = 1) (hv : v < zn e 3) (ho : (e (10 + 7 * n + 5)).toInt = v) (w : xr_W f) (f4 : f (10 + 7 * n + 4) = 0) (f5 : f (10 + 7 * n + 5) = Int32.ofInt (-1)) (fv : f (172 + 5 * v + 4) = 2) (fo : ∀ j, j ≠ 10 + 7 * n + 4 → j ≠ 10 + 7 * n + 5 → j ≠ 172 + 5 * v + 4 → j ≠ 7 → ¬ zc6 j → f j = e j) : zW f b := by
  have bb := zn_b hW.w
  have fo : ∀ j, j ≠ 10 + 7 * n + 4 → j ≠ 10 + 7 * n + 5 → j ≠ 172 + 5 * v + 4 → j ≠ 7 → ¬ (10 ≤ j ∧ j < 52 ∧ (j - 10) % 7 = 6) → f j = e j := fo
  have g : ∀ i, i < 7 → f i = e i := fun i hi => fo i (by omega) (by omega) (by omega) (by omega) (by omega)
  have n1 := zn_ag (g 1 (by omega))
  have n2 := zn_ag (g 2 (by omega))
  have n3 := zn_ag (g 3 (by omega))
  refine ⟨w, ?_, ⟨?_, ?_⟩, ⟨?_, ?_, ?_, ?_⟩, ?_⟩
  · exact zA_ag hW.a hW.w (fun i hi _ => g i (by omega)) (fun s hs k hk => fo _ (by omega) (by omega) (by omega) (by omega) (by omega)) (fun p hp => ⟨fo _ (by omega) (by omega) (by omega) (by omega) (by omega), fo _ (by omega) (by omega) (by omega) (by omega) (by omega)⟩) (fun u hu k hk => fo _ (by omega) (by omega) (by omega) (by omega) (by omega))
  · intro p hp
    rw [n2] at hp
    rw [fo _ (by omega) (by omega) (by omega) (by omega) (by omega), g 1 (by omega)]
    exact hW.b.inn p hp
  · intro p hp
    rw [n2] at hp
    have i := hW.b.inn p hp
    have y : (e (52 + 5 * p + 3)).toNatClampNeg = (e (52 + 5 * p + 3)).toInt.toNat := rfl
    rw [fo (52 + 5 * p + 4) (by omega) (by omega) (by omega) (by omega) (by omega), fo (52 + 5 * p + 3) (by omega) (by omega) (by omega) (by omega) (by omega), hW.b.lo p hp]
    by_cases d : 0 ≤ (e (52 + 5 * p + 3)).toInt
    · by_cases c : (e (52 + 5 * p + 3)).toNatClampNeg = n
      · rw [c, f4, h1, if_neg (fun z => absurd z.2 (by decide)), if_neg (fun z => absurd z.2 (by decide))]
      · rw [fo (10 + 7 * (e (52 + 5 * p + 3)).toNatClampNeg + 4) (by omega) (by omega) (by omega) (by omega) (by omega)]
    · rw [if_neg (fun z => d z.1), if_neg (fun z => d z.1)]
  · intro s hs
    rw [n1] at hs
    by_cases c : s = n
    · rw [c, f4]
      exact Or.inl rfl
    · rw [fo _ (by omega) (by omega) (by omega) (by omega) (by omega)]
      exact hW.c.st s hs
  · intro s hs e1
    rw [n1] at hs
    by_cases c : s = n
    · rw [c, f4] at e1
      exact absurd e1 (by decide)
    · rw [fo _ (by omega) (by omega) (by omega) (by omega) (by omega)] at e1
      obtain ⟨u, a, b, cc, d, g'⟩ := hW.c.on s hs e1
      have nu : u ≠ v := by
        intro z
        obtain ⟨u2, a2, b2, c2, d2, g2⟩ := hW.c.on n hn h1
        have : u2 = v := by omega
        rw [z] at cc
        rw [this] at c2
        omega
      exact ⟨u, by rw [n3]; exact a, by rw [fo _ (by omega) (by omega) (by omega) (by omega) (by omega)]; exact b, by rw [fo _ (by omega) (by omega) (by omega) (by omega) (by omega)]; exact cc, by rw [fo _ (by omega) (by omega) (by omega) (by omega) (by omega)]; exact d, by rw [fo _ (by omega) (by omega) (by omega) (by omega) (by omega)]; exact g'⟩
  · intro s hs e1
    rw [n1] at hs
    by_cases c : s = n
    · rw [c, f5]
    · rw [fo _ (by omega) (by omega) (by omega) (by omega) (by omega)] at e1
      rw [fo _ (by omega) (by omega) (by omega) (by omega) (by omega)]
      exact hW.c.no s hs e1
  · intro u hu e1
    rw [n3] at hu
    by_cases c : u = v
    · rw [c, fv] at e1
      exact absurd e1 (by decide)
    · rw [fo _ (by omega) (by omega) (by omega) (by omega) (by omega)] at e1
      obtain ⟨s, a, b, cc, d⟩ := hW.c.vc u hu e1
      have ns : s ≠ n := by
        intro z
        rw [z] at d
        omega
      exact ⟨s, by rw [n1]; exact a, by rw [fo _ (by omega) (by omega) (by omega) (by omega) (by omega)]; exact b, by rw [fo _ (by omega) (by omega) (by omega) (by omega) (by omega)]; exact cc, by rw [fo _ (by omega) (by omega) (by omega) (by omega) (by omega)]; exact d⟩
  · exact zD_ag hW.d hW.w (g 2 (by omega)) (g 4 (by omega)) (g 5 (by omega)) (g 6 (by omega)) (fun p hp => fo _ (by omega) (by omega) (by omega) (by omega) (by omega))
theorem z_oi {x : Int32} (h0 : 0 ≤ x.toInt) (h1 : x.toInt < 1000) : Int32.ofInt ((x.toNatClampNeg : Nat) : Int) = x := by
  have t := z_tn h0
  exact Int32.toInt_inj.mp (by rw [xi_k (by omega)]; omega)
/-- the class's loop does the events of her ships -/
theorem zhc_f {q : Nat → Nat} {e : Nat → Int32} {b : Int} (hq : zq q) (hW : zW e b) : ∀ (c : Nat) (i : Int32) (J : Nat → Nat → Int32), 0 ≤ i.toInt → i.toInt ≤ (e 1).toInt → (e 1).toInt - i.toInt ≤ c → zR q J (zF e (zlc e i.toNatClampNeg)) → zR q (zhc q c i J) (zF e (zlc e (zn e 1))) := by
  have bb := zn_b hW.w
  intro c
  induction c with
  | zero =>
    intro i J h0 h1 hc hR
    rw [show i.toNatClampNeg = zn e 1 from by rw [zn_t]; omega] at hR
    exact hR
  | succ c ih =>
    intro i J h0 h1 hc hR
    have hl := zlc_b hW (n := i.toNatClampNeg) (by have := z_tn h0; omega)
    have c1 : ∀ {j}, zcst j → zF e (zlc e i.toNatClampNeg) j = e j := fun h => zF_c hl h
    rw [zhc, zR_n hR (by omega), c1 (j := 1) (by unfold zcst; omega)]
    by_cases h2 : e 1 ≤ i
    · rw [if_pos h2]
      rw [show i.toNatClampNeg = zn e 1 from by rw [zn_t]; have := z_ge.mp h2; omega] at hR
      exact hR
    · rw [if_neg h2]
      have x := zx bb.2.2.2.2.2.1 h0 h2
      have lt := z_lt h2
      have i1 := zx_i h2 h0
      have n1 : zn (zF e (zlc e i.toNatClampNeg)) 1 = zn e 1 := zn_ag (c1 (by unfold zcst; omega))
      have n3 : zn (zF e (zlc e i.toNatClampNeg)) 3 = zn e 3 := zn_ag (c1 (by unfold zcst; omega))
      have un : ∀ k, k < 2 → zF e (zlc e i.toNatClampNeg) (10 + 7 * i.toNatClampNeg + 4 + k) = e (10 + 7 * i.toNatClampNeg + 4 + k) := by
        intro k hk
        refine zF_o (by omega) (by unfold zc6; omega) _ _ (fun y hy => ?_)
        have hm := (zlc_m.mp hy).1
        have hb := hl y hy
        omega
      have u4 := un 0 (by omega)
      have u5 : zF e (zlc e i.toNatClampNeg) (10 + 7 * i.toNatClampNeg + 5) = e (10 + 7 * i.toNatClampNeg + 5) := un 1 (by omega)
      rw [zR_s hR (by rw [n1]; exact x.1) (by omega) (by omega) (by omega) (zc_s4 _ (by omega)), u4]
      have ih' := ih (i + Int32.ofInt 1)
      have g0 := zi_i h2 h0
      have g1 : (i + Int32.ofInt 1).toInt ≤ (e 1).toInt := by rw [lx_inc h2]; omega
      have g2 := lx_dec h2 hc
      rw [i1, zlc_s] at ih'
      by_cases h3 : e (10 + 7 * i.toNatClampNeg + 4) = Int32.ofInt 1
      · rw [if_pos h3]
        obtain ⟨v, hv, ev, es, ec, eb⟩ := hW.c.on _ x.1 h3
        have nv := z_i3 ev
        have e12 : J (q 12) i.toNatClampNeg = e (10 + 7 * i.toNatClampNeg + 5) := (zR_s hR (by rw [n1]; exact x.1) (by omega) (by omega) (by omega) (zc_s5 _ (by omega))).trans u5
        have e8 : J (q 8) v = e (172 + 5 * v + 2) := (zR_v hR (by rw [n3]; exact hv) (by omega) (by omega) (zc_v2 _ (by omega))).trans (c1 (by unfold zcst; omega))
        have e4 : J (q 0) 2 = e 4 := (zR_4 hR).trans (c1 (by unfold zcst; omega))
        have e71 : ¬ x71 q (e (10 + 7 * i.toNatClampNeg + 5)) J = 0 := by
          unfold x71
          rw [if_neg (fun c => by have := z_le0.mp c; omega), zR_n hR (by omega), c1 (j := 3) (by unfold zcst; omega), if_neg (fun c => by have := z_ge.mp c; omega)]
          decide
        have e2 : x2 q i (J (q 0) 2) J = if e (172 + 5 * v + 2) = e 4 then Int32.ofInt 1 else Int32.ofInt 0 := by
          unfold x2
          rw [e12, if_neg e71, nv, e8, e4]
        rw [e2]
        rw [nv] at ih'
        by_cases h4 : e (172 + 5 * v + 2) = e 4
        · rw [if_pos h4, if_neg (show ¬ Int32.ofInt 1 = 0 from by decide)]
          rw [if_pos ⟨h3, h4⟩] at ih'
          refine ih' _ g0 g1 g2 ?_
          have zz := zh_c (part := zpart e (i.toNatClampNeg, v)) hq hR (zF_W _ _ hW.w hl) (zF_A hW.w hW.a hl) (s := i) (v := v) ⟨h0, by rw [c1 (j := 1) (by unfold zcst; omega)]; omega⟩ (by rw [n3]; exact hv) (by rw [u5]; exact ev) (c1 (by unfold zcst; omega)) (by
            unfold zpart
            rw [zk_66 hR (zF_W _ _ hW.w hl), zn_ag (c1 (by unfold zcst; omega)), zk_ag (zF_p hl) _ (by omega), z_oi h0 (by omega)])
          rw [zgn_ag hW.w (c1 (by unfold zcst; omega)) (zF_p hl)] at zz
          unfold zF
          rw [List.foldl_append]
          show zR q _ (zev e (zF e (zlc e i.toNatClampNeg)) (i.toNatClampNeg, v))
          unfold zev
          rw [show Int32.ofInt (((i.toNatClampNeg, v) : Nat × Nat).1 : Int) = i from z_oi h0 (by omega)]
          exact zz
        · rw [if_neg h4, if_pos (show Int32.ofInt 0 = 0 from rfl)]
          rw [if_neg (fun c => h4 c.2), List.append_nil] at ih'
          exact ih' _ g0 g1 g2 hR
      · rw [if_neg h3]
        rw [if_neg (fun c => h3 c.1), List.append_nil] at ih'
        exact ih' _ g0 g1 g2 hR
/-- a ship that is not lost has no lost planks -/
theorem zl_of {e : Nat → Int32} {b : Int} {s : Int32} (hW : zW e b) (h0 : 0 ≤ s.toInt → e (10 + 7 * s.toNatClampNeg + 4) ≠ 2) : zl e s := by
  intro n hn es
  rw [hW.b.lo n hn, es, if_neg (fun c => h0 c.1 c.2)]
/-- the reference's loop does the events of its voyages -/
theorem zhr_f {p : Nat → Nat} {e : Nat → Int32} {b : Int} (hW0 : zW e b) : ∀ (c : Nat) (i : Int32) (J : Nat → Nat → Int32), 0 ≤ i.toInt → i.toInt ≤ (e 3).toInt → (e 3).toInt - i.toInt ≤ c → J (p 4) = zF e (zlr e i.toNatClampNeg) → zW (J (p 4)) b → (∀ v, v < i.toNatClampNeg → J (p 4) (172 + 5 * v + 4) = 1 → e (172 + 5 * v + 2) ≠ e 4) → zhr p c i J (p 4) = zF e (zlr e (zn e 3)) ∧ zW (zhr p c i J (p 4)) b ∧ (∀ v, v < zn e 3 → zhr p c i J (p 4) (172 + 5 * v + 4) = 1 → e (172 + 5 * v + 2) ≠ e 4) := by
  have bb := zn_b hW0.w
  intro c
  induction c with
  | zero =>
    intro i J h0 h1 hc hJ hW hb
    rw [show i.toNatClampNeg = zn e 3 from by rw [zn_t]; omega] at hJ hb
    exact ⟨hJ, hW, hb⟩
  | succ c ih =>
    intro i J h0 h1 hc hJ hW hb
    have hl := zlr_b hW0 (n := i.toNatClampNeg) (by have := z_tn h0; omega)
    have c1 : ∀ {j}, zcst j → J (p 4) j = e j := fun h => by rw [hJ]; exact zF_c hl h
    rw [zhr, c1 (j := 3) (by unfold zcst; omega)]
    by_cases h2 : e 3 ≤ i
    · rw [if_pos h2]
      rw [show i.toNatClampNeg = zn e 3 from by rw [zn_t]; have := z_ge.mp h2; omega] at hJ hb
      exact ⟨hJ, hW, hb⟩
    · rw [if_neg h2]
      have x := zx bb.2.2.2.2.2.2.2 h0 h2
      have lt := z_lt h2
      have i1 := zx_i h2 h0
      have n3 : zn (J (p 4)) 3 = zn e 3 := zn_ag (c1 (by unfold zcst; omega))
      have u4 : J (p 4) (172 + 5 * i.toNatClampNeg + 4) = e (172 + 5 * i.toNatClampNeg + 4) := by
        rw [hJ]
        refine zF_o (by omega) (by unfold zc6; omega) _ _ (fun y hy => ?_)
        have hm := (zlr_m.mp hy).1
        have hb := hl y hy
        omega
      have r0 : x180 p i (Int32.ofInt 0) J = _ := zx_v (k := 0) h0 (by omega) (by omega)
      have r2 : x180 p i (Int32.ofInt 2) J = _ := zx_v (k := 2) h0 (by omega) (by omega)
      have r3 : x180 p i (Int32.ofInt 3) J = _ := zx_v (k := 3) h0 (by omega) (by omega)
      have r4 : x180 p i (Int32.ofInt 4) J = _ := zx_v (k := 4) h0 (by omega) (by omega)
      rw [c1 (by unfold zcst; omega)] at r0 r2 r3
      rw [r2, r4, u4, c1 (j := 4) (by unfold zcst; omega)]
      have ih' := ih (i + Int32.ofInt 1)
      have g0 := zi_i h2 h0
      have g1 : (i + Int32.ofInt 1).toInt ≤ (e 3).toInt := by rw [lx_inc h2]; omega
      have g2 := lx_dec h2 hc
      rw [i1, zlr_s] at ih'
      by_cases h3 : e (172 + 5 * i.toNatClampNeg + 4) = Int32.ofInt 1
      · rw [if_pos h3]
        by_cases h4 : e (172 + 5 * i.toNatClampNeg + 2) = e 4
        · rw [if_pos h4]
          rw [if_pos ⟨h3, h4⟩] at ih'
          obtain ⟨s, hs, es, e1, eo⟩ := hW.c.vc i.toNatClampNeg (by rw [n3]; exact x.1) (by rw [u4]; exact h3)
          have s0 : J (p 4) (172 + 5 * i.toNatClampNeg + 0) = e (172 + 5 * i.toNatClampNeg + 0) := c1 (by unfold zcst; omega)
          rw [s0] at es
          have ns := z_i3 es
          have n1 : zn (J (p 4)) 1 = zn e 1 := zn_ag (c1 (by unfold zcst; omega))
          have zl1 : zl (J (p 4)) (e (172 + 5 * i.toNatClampNeg + 0)) := zl_of hW (fun _ c => by rw [ns, e1] at c; exact absurd c (by decide))
          have eE := zh_r (p := p) (J := J) (v := i) (s := e (172 + 5 * i.toNatClampNeg + 0)) (pay := e (172 + 5 * i.toNatClampNeg + 3)) (part := zpart e (s, i.toNatClampNeg)) hW.w hW.a ⟨h0, by rw [c1 (j := 3) (by unfold zcst; omega)]; exact h2⟩ r0 r3 (by
            unfold zpart
            rw [zk_170 hW.w zl1, zn_ag (c1 (by unfold zcst; omega)), zk_ag (fun n hn => ⟨c1 (by unfold zcst; omega), c1 (by unfold zcst; omega), c1 (by unfold zcst; omega)⟩) _ (by omega), ← ns, z_oi (by omega) (by omega)]) zl1
          rw [zgn_ag hW0.w (c1 (by unfold zcst; omega)) (fun n hn => ⟨c1 (by unfold zcst; omega), c1 (by unfold zcst; omega), c1 (by unfold zcst; omega)⟩), ns] at eE
          have eF : x191 p i J (p 4) = zev e (J (p 4)) (s, i.toNatClampNeg) := by
            rw [eE]
            unfold zev
            rw [show Int32.ofInt (((s, i.toNatClampNeg) : Nat × Nat).1 : Int) = e (172 + 5 * i.toNatClampNeg + 0) from (zi_n (by omega)).mpr es |>.symm]
          have hW1 : zW (x191 p i J (p 4)) b := by
            refine zW_home hW hs e1 (by rw [n3]; exact x.1) eo ?_ ?_ ?_ ?_ ?_
            · rw [eE]
              exact zE_W (by omega) (by omega) hW.w
            · rw [eE]
              exact if_pos rfl
            · rw [eE]
              unfold zE
              rw [if_neg (by omega), if_pos rfl]
            · rw [eE]
              unfold zE
              rw [if_neg (by omega), if_neg (by omega), if_pos rfl]
            · intro j a b c d g
              rw [eE]
              exact zE_o a b c d g
          refine ih' _ g0 g1 g2 ?_ hW1 ?_
          · unfold zF
            rw [List.foldl_append, eF, hJ, ns]
            rfl
          · intro v hv
            rw [eE]
            by_cases c : v = i.toNatClampNeg
            · rw [c]
              unfold zE
              rw [if_neg (by omega), if_neg (by omega), if_pos rfl]
              intro d
              exact absurd d (by decide)
            · rw [zE_o (by omega) (by omega) (by omega) (by omega) (by unfold zc6; omega)]
              exact hb v (by omega)
        · rw [if_neg h4]
          rw [if_neg (fun c => h4 c.2), List.append_nil] at ih'
          refine ih' _ g0 g1 g2 hJ hW ?_
          intro v hv hc1
          by_cases c : v = i.toNatClampNeg
          · rw [c]
            exact h4
          · exact hb v (by omega) hc1
      · rw [if_neg h3]
        rw [if_neg (fun c => h3 c.1), List.append_nil] at ih'
        refine ih' _ g0 g1 g2 hJ hW ?_
        intro v hv hc1
        by_cases c : v = i.toNatClampNeg
        · rw [c, u4] at hc1
          exact absurd hc1 h3
        · exact hb v (by omega) hc1
theorem zhome {q p : Nat → Nat} {Jc Jr : Nat → Nat → Int32} (hq : zq q) (hR : zR q Jc (Jr (p 4))) (hW : zW (Jr (p 4)) (Jr (p 4) 4).toInt) : zR q (zhc q ((Jc (q 1) 1).toNatClampNeg) (Int32.ofInt 0) Jc) (zhr p ((Jr (p 4) 3).toNatClampNeg) (Int32.ofInt 0) Jr (p 4)) ∧ zW (zhr p ((Jr (p 4) 3).toNatClampNeg) (Int32.ofInt 0) Jr (p 4)) ((Jr (p 4) 4).toInt + 1) ∧ zhr p ((Jr (p 4) 3).toNatClampNeg) (Int32.ofInt 0) Jr (p 4) 4 = Jr (p 4) 4 := by
  have bb := zn_b hW.w
  have a := zhc_f hq hW ((Jc (q 1) 1).toNatClampNeg) (Int32.ofInt 0) Jc (by decide) (by rw [show (Int32.ofInt 0).toInt = 0 from by decide]; omega) (by rw [zR_n hR (by omega)]; exact lx_beg (by decide)) hR
  have b := zhr_f (p := p) hW ((Jr (p 4) 3).toNatClampNeg) (Int32.ofInt 0) Jr (by decide) (by rw [show (Int32.ofInt 0).toInt = 0 from by decide]; omega) (lx_beg (by decide)) rfl hW (fun v hv => by rw [show (Int32.ofInt 0).toNatClampNeg = 0 from rfl] at hv; omega)
  have hl := zlr_b hW (Nat.le_refl (zn (Jr (p 4)) 3))
  have c1 : ∀ {j}, zcst j → zhr p ((Jr (p 4) 3).toNatClampNeg) (Int32.ofInt 0) Jr (p 4) j = Jr (p 4) j := fun h => by rw [b.1]; exact zF_c hl h
  refine ⟨?_, ?_, c1 (by unfold zcst; omega)⟩
  · rw [b.1, ← zF_perm hW]
    exact a
  · have w := b.2.1
    refine ⟨w.w, w.a, w.b, ⟨w.c.st, ?_, w.c.no, w.c.vc⟩, w.d⟩
    intro s hs e1
    obtain ⟨v, hv, ev, es, ec, eb⟩ := w.c.on s hs e1
    refine ⟨v, hv, ev, es, ec, ?_⟩
    have n := b.2.2 v (by rw [← zn_ag (c1 (j := 3) (by unfold zcst; omega))]; exact hv) ec
    rw [c1 (by unfold zcst; omega)] at eb ⊢
    have : (Jr (p 4) (172 + 5 * v + 2)).toInt ≠ (Jr (p 4) 4).toInt := fun c => n (Int32.toInt_inj.mp c)
    omega
