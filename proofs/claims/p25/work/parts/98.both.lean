/-! the law's calls, both sides; the tapes, the counts of rules are the same -/
def lq_E (pl : Nat → Nat) (M : nt_M) : Prop := ∃ t n : Nat, t ≤ 400 ∧ n ≤ 6 ∧ nt_I M (pl 17) 1 = nI t ∧ nt_I M (pl 0) 1 = nI t ∧ (∀ j, nt_I M (pl 8) j = nt_I M (pl 18) j) ∧ (∀ j, -128 ≤ (nt_I M (pl 18) j).toInt ∧ (nt_I M (pl 18) j).toInt ≤ 127) ∧ nt_I M (pl 16) 4 = nI n ∧ nt_I M (pl 0) 2 = nI n
theorem lq_keep {pl : Nat → Nat} {M M' : nt_M} (h : lq_T pl M M') (hE : lq_E pl M) : lq_E pl M' := by
  obtain ⟨t, n, a, b, c, d, e, f, g, i⟩ := hE
  have c18 := fun j => h 18 j (Or.inr (Or.inl rfl))
  exact ⟨t, n, a, b, (h 17 1 (Or.inl rfl)).trans c, (h 0 1 (Or.inr (Or.inr (Or.inr (Or.inr ⟨rfl, Or.inl rfl⟩))))).trans d, fun j => (h 8 j (Or.inr (Or.inr (Or.inl rfl)))).trans ((e j).trans (c18 j).symm), fun j => by rw [c18 j]; exact f j, (h 16 4 (Or.inr (Or.inr (Or.inr (Or.inl ⟨rfl, rfl⟩))))).trans g, (h 0 2 (Or.inr (Or.inr (Or.inr (Or.inr ⟨rfl, Or.inr rfl⟩))))).trans i⟩
theorem lq_ne {pl : Nat → Nat} {v : Nat → Int} {M : nt_M} (hB : ly_B pl v M) (g h : Nat) (hg : g < 66) (hh : h < 66) (e : g ≠ h) : pl g ≠ pl h := fun c => e (hB.1 g h hg hh c)
theorem lq_feed2 {X : nt_X} {pl : Nat → Nat} {v : Nat → Int} {M M1 M2 : nt_M} {y1 y2 a0 a1 a2 a3 a4 : Int32} (hB : ly_B pl v M) (hB1 : ly_B pl v M1) (hE : lq_E pl M) (e1 : nt_ev X 99 102 [.ref (pl 16), .int a0, .int a1, .int a2, .int a3, .int a4] M (some (.int y1), M1)) (e2 : nt_ev X 99 130 [.ref (pl 0), .int a0, .int a1, .int a2, .int a3, .int a4] M1 (some (.int y2), M2)) : y1 = y2 ∧ lq_E pl M2 := by
  have hE0 := hE
  obtain ⟨t, n, ht, hn, h17, h01, h8, hb, h16, h02⟩ := hE
  have ne := lq_ne hB
  have g18 := hB.2.1.2 18 _ (show ly_E.2.1[18]? = some (12, 400, 400, 0) from rfl)
  have g8 := hB1.2.1.2 8 _ (show ly_E.2.1[8]? = some (12, 400, 400, 0) from rfl)
  have rT := ly_ref (g := 16) (j := 0) (k := 17) hB (List.mem_of_getElem? (i := 0) rfl)
  have rY := ly_ref (g := 17) (j := 0) (k := 18) hB (List.mem_of_getElem? (i := 28) rfl)
  have rB := ly_ref (g := 0) (j := 0) (k := 8) hB1 (List.mem_of_getElem? (i := 20) rfl)
  rcases lq_feedC (J := nt_I M) rT rY (ne 18 17 (by omega) (by omega) (by decide)) g18.2.1 h17 ht e1 with ⟨c, e⟩ | ⟨c, J1, e, l1, w1, f1, o1⟩
  · obtain ⟨ey, eM⟩ := lq_out e
    have eM : M1 = M := eM
    subst eM
    rcases lq_feedR (J := nt_I M1) rB (ne 8 0 (by omega) (by omega) (by decide)) g8.2.1 h01 ht e2 with ⟨c2, e⟩ | ⟨c2, _⟩
    · obtain ⟨ey2, eM2⟩ := lq_out e
      have eM2 : M2 = M1 := eM2
      subst eM2
      exact ⟨by rw [ey, ey2], hE0⟩
    · omega
  · obtain ⟨ey, eM⟩ := lq_out e
    have i1 : nt_I M1 = J1 := by rw [eM]; rfl
    have h01' : nt_I M1 (pl 0) 1 = nI t := by rw [i1, o1 _ (ne 0 17 (by omega) (by omega) (by decide)) (ne 0 18 (by omega) (by omega) (by decide))]; exact h01
    rcases lq_feedR (J := nt_I M1) rB (ne 8 0 (by omega) (by omega) (by decide)) g8.2.1 h01' ht e2 with ⟨c2, _⟩ | ⟨c2, J2, e, l2, w2, f2, o2⟩
    · omega
    · obtain ⟨ey2, eM2⟩ := lq_out e
      have i2 : nt_I M2 = J2 := by rw [eM2]; rfl
      refine ⟨by rw [ey, ey2], t + 20, n, by omega, hn, ?_, ?_, fun j => ?_, fun j => ?_, ?_, ?_⟩
      · rw [i2, o2 _ (ne 17 0 (by omega) (by omega) (by decide)) (ne 17 8 (by omega) (by omega) (by decide)), i1]
        exact l1
      · rw [i2]
        exact l2
      · rw [i2, w2, o2 _ (ne 18 0 (by omega) (by omega) (by decide)) (ne 18 8 (by omega) (by omega) (by decide)), i1, w1, o1 _ (ne 8 17 (by omega) (by omega) (by decide)) (ne 8 18 (by omega) (by omega) (by decide)), show nt_I M (pl 8) = nt_I M (pl 18) from funext h8]
      · rw [i2, o2 _ (ne 18 0 (by omega) (by omega) (by decide)) (ne 18 8 (by omega) (by omega) (by decide)), i1, w1]
        exact lq_wb (lq_wb (lq_wb (lq_wb (lq_wb hb)))) j
      · rw [i2, o2 _ (ne 16 0 (by omega) (by omega) (by decide)) (ne 16 8 (by omega) (by omega) (by decide)), i1, o1 _ (ne 16 17 (by omega) (by omega) (by decide)) (ne 16 18 (by omega) (by omega) (by decide))]
        exact h16
      · rw [i2, f2 2 (by decide), i1, o1 _ (ne 0 17 (by omega) (by omega) (by decide)) (ne 0 18 (by omega) (by omega) (by decide))]
        exact h02
theorem lq_end2 {X : nt_X} {pl : Nat → Nat} {v : Nat → Int} {M M1 M2 : nt_M} {y1 y2 a : Int32} (hB : ly_B pl v M) (hE : lq_E pl M) (e1 : nt_ev X 99 103 [.ref (pl 16), .int a] M (some (.int y1), M1)) (e2 : nt_ev X 99 132 [.ref (pl 0), .int a] M1 (some (.int y2), M2)) : y1 = y2 ∧ lq_E pl M2 := by
  have hE0 := hE
  obtain ⟨t, n, ht, hn, h17, h01, h8, hb, h16, h02⟩ := hE
  have ne := lq_ne hB
  have rT := ly_ref (g := 16) (j := 0) (k := 17) hB (List.mem_of_getElem? (i := 0) rfl)
  rcases lq_endC (J := nt_I M) rT h17 e1 with ⟨c, e⟩ | ⟨c, c', e⟩
  · obtain ⟨ey, eM⟩ := lq_out e
    have eM : M1 = M := eM
    subst eM
    rcases lq_endR (J := nt_I M1) h01 e2 with ⟨c2, e⟩ | ⟨c2, c3, _⟩
    · obtain ⟨ey2, eM2⟩ := lq_out e
      have eM2 : M2 = M1 := eM2
      subst eM2
      exact ⟨by rw [ey, ey2], hE0⟩
    · exact absurd c (fun c => c.elim c2 (fun c => c c3))
  · obtain ⟨ey, eM⟩ := lq_out e
    have i1 : nt_I M1 = nt_u (nt_I M) (pl 17) 1 a := by rw [eM]; rfl
    have h01' : nt_I M1 (pl 0) 1 = nI t := by rw [i1, me_uo (ne 0 17 (by omega) (by omega) (by decide))]; exact h01
    rcases lq_endR (J := nt_I M1) h01' e2 with ⟨c2, e⟩ | ⟨c2, c3, e⟩
    · exact absurd c2 (fun h => h.elim c (fun h => h c'))
    · obtain ⟨ey2, eM2⟩ := lq_out e
      have i2 : nt_I M2 = nt_u (nt_I M1) (pl 0) 1 a := by rw [eM2]; rfl
      have a0 : 0 ≤ a.toInt := by
        have : ¬ a.toInt < (0 : Int32).toInt := fun h => c (Int32.lt_iff_toInt_lt.mpr h)
        have z : (0 : Int32).toInt = 0 := by decide
        omega
      have a1 : a.toInt ≤ t := by
        have := Int32.le_iff_toInt_le.mp c'
        rw [nI_toInt (by omega)] at this
        exact this
      have ea : a = nI a.toInt.toNat := Int32.toInt_inj.mp (by rw [nI_toInt (by omega)]; omega)
      refine ⟨by rw [ey, ey2], a.toInt.toNat, n, by omega, hn, ?_, ?_, fun j => ?_, fun j => ?_, ?_, ?_⟩
      · rw [i2, me_uo (ne 17 0 (by omega) (by omega) (by decide)), i1, me_us]
        exact ea
      · rw [i2, me_us]
        exact ea
      · rw [i2, me_uo (ne 8 0 (by omega) (by omega) (by decide)), me_uo (ne 18 0 (by omega) (by omega) (by decide)), i1, me_uo (ne 8 17 (by omega) (by omega) (by decide)), me_uo (ne 18 17 (by omega) (by omega) (by decide))]
        exact h8 j
      · rw [i2, me_uo (ne 18 0 (by omega) (by omega) (by decide)), i1, me_uo (ne 18 17 (by omega) (by omega) (by decide))]
        exact hb j
      · rw [i2, me_uo (ne 16 0 (by omega) (by omega) (by decide)), i1, me_uo (ne 16 17 (by omega) (by omega) (by decide))]
        exact h16
      · rw [i2, me_uk (by decide), i1, me_uo (ne 0 17 (by omega) (by omega) (by decide))]
        exact h02
theorem lc_Qf {J0 J : Nat → Nat → Int32} {Rd RR Sp t : Nat} {r : lb_Y} (h : lc_Q J0 Rd RR Sp t r J) (a : Nat) (h1 : a ≠ Rd) (h2 : a ≠ RR) (h3 : a ≠ Sp) : J a = J0 a := by
  cases r with
  | inl c =>
    obtain ⟨_, m, s, hS⟩ := h
    exact hS.2.2.2.2.2.1 a h1 h2 h3
  | inr z => exact h.1.2.2.2.2.2.1 a h1 h2 h3
theorem lq_rule2 {X : nt_X} {pl : Nat → Nat} {v v' : Nat → Int} {M M1 M2 : nt_M} {y1 y2 : Int32} (hB : ly_B pl v M) (hB1 : ly_B pl v' M1) (hE : lq_E pl M) (hp : ∀ g, g < 66 → pl g < nt_n M) (hR : lq_R X pl v v' 98 y1 M M1) (e2 : nt_ev X 99 133 [.ref (pl 0)] M1 (some (.int y2), M2)) : y1 = y2 ∧ lq_E pl M2 := by
  have hE0 := hE
  obtain ⟨t, n, ht, hn, h17, h01, h8, hb, h16, h02⟩ := hE
  have ne := lq_ne hB
  have vn : v 2 = (n : Int) := by
    have := ly_vI hB
    rw [h16, nI_toInt (by omega)] at this
    exact this.symm
  have hO : md_O M1 (pl 0) (pl 8) (pl 1) (pl 10) (pl 9) := ⟨ly_ref (g := 0) (j := 22) (k := 9) hB1 (List.mem_of_getElem? (i := 21) rfl), ⟨ne 9 0 (by omega) (by omega) (by decide), ne 9 8 (by omega) (by omega) (by decide), ne 9 1 (by omega) (by omega) (by decide), ne 9 10 (by omega) (by omega) (by decide)⟩, by have := (hB1.2.1.2 9 _ (show ly_E.2.1[9]? = some (13, 400, 400, 0) from rfl)).2.2.1; dsimp only at this; omega, lq_sp hB1 (show ly_E.2.1[9]? = some (13, 400, 400, 0) from rfl)⟩
  have hK : md_K M1 (pl 0) (pl 8) (pl 1) (pl 10) (pl 2) (pl 3) := ⟨ly_ref (g := 0) (j := 5) (k := 2) hB1 (List.mem_of_getElem? (i := 14) rfl), ly_ref (g := 0) (j := 6) (k := 3) hB1 (List.mem_of_getElem? (i := 15) rfl), ⟨ne 2 0 (by omega) (by omega) (by decide), ne 2 8 (by omega) (by omega) (by decide), ne 2 1 (by omega) (by omega) (by decide), ne 2 10 (by omega) (by omega) (by decide)⟩, ⟨ne 3 0 (by omega) (by omega) (by decide), ne 3 8 (by omega) (by omega) (by decide), ne 3 1 (by omega) (by omega) (by decide), ne 3 10 (by omega) (by omega) (by decide)⟩, lq_sp hB1 (show ly_E.2.1[2]? = some (13, 288, 288, 0) from rfl), lq_sp hB1 (show ly_E.2.1[3]? = some (13, 6, 6, 14) from rfl)⟩
  have hP0 : nt_I M1 (pl 0) 1 = nI t → (∀ j, nt_I M1 (pl 8) j = nt_I M (pl 18) j) → md_P0 M1 (nt_I M1) (nt_I M (pl 18)) t (pl 0) (pl 8) (pl 1) (pl 10) := fun q1 q2 => ⟨⟨ly_ref (g := 0) (j := 0) (k := 8) hB1 (List.mem_of_getElem? (i := 20) rfl), ly_ref (g := 0) (j := 3) (k := 1) hB1 (List.mem_of_getElem? (i := 13) rfl), ly_ref (g := 0) (j := 4) (k := 10) hB1 (List.mem_of_getElem? (i := 22) rfl)⟩, ⟨ne 8 0 (by omega) (by omega) (by decide), ne 8 1 (by omega) (by omega) (by decide), ne 8 10 (by omega) (by omega) (by decide), ne 0 1 (by omega) (by omega) (by decide), ne 0 10 (by omega) (by omega) (by decide), ne 1 10 (by omega) (by omega) (by decide)⟩, q1, q2, ht, by have := (hB1.2.1.2 1 _ (show ly_E.2.1[1]? = some (13, 2400, 2400, 0) from rfl)).2.2.1; dsimp only at this; omega, lq_sp hB1 (show ly_E.2.1[1]? = some (13, 2400, 2400, 0) from rfl), lq_sp hB1 (show ly_E.2.1[10]? = some (13, 7, 7, 13) from rfl)⟩
  have hby : lb_by (nt_I M (pl 18)) t := fun j _ => hb j
  rcases hR with ⟨c6, ey, eM⟩ | ⟨c6, x, MR, kr, q17, qo, qr, hx⟩
  · subst eM
    rcases md_rule (J := nt_I M1) (hP0 h01 h8) hO hK hby h02 hn e2 with ⟨n6, e⟩ | ⟨n6, _⟩
    · obtain ⟨ey2, eM2⟩ := lq_out e
      have eM2 : M2 = M1 := eM2
      subst eM2
      exact ⟨by rw [ey, ey2], hE0⟩
    · omega
  · have hP : lc_P M (nt_I M) (nt_I M (pl 18)) t (pl 19) (pl 17) (pl 18) (pl 21) (pl 22) := ⟨⟨ly_ref (g := 19) (j := 0) (k := 17) hB (List.mem_of_getElem? (i := 12) rfl), ly_ref (g := 17) (j := 0) (k := 18) hB (List.mem_of_getElem? (i := 28) rfl), ly_ref (g := 21) (j := 0) (k := 19) hB (List.mem_of_getElem? (i := 10) rfl), ly_ref (g := 21) (j := 1) (k := 22) hB (List.mem_of_getElem? (i := 11) rfl)⟩, ⟨ne 17 19 (by omega) (by omega) (by decide), ne 17 21 (by omega) (by omega) (by decide), ne 17 22 (by omega) (by omega) (by decide), ne 18 19 (by omega) (by omega) (by decide), ne 18 21 (by omega) (by omega) (by decide), ne 18 22 (by omega) (by omega) (by decide), ne 19 21 (by omega) (by omega) (by decide), ne 19 22 (by omega) (by omega) (by decide), ne 21 22 (by omega) (by omega) (by decide)⟩, h17, fun _ => rfl, ht, by have := (hB.2.1.2 22 _ (show ly_E.2.1[22]? = some (13, 400, 400, 0) from rfl)).2.2.1; dsimp only at this; omega, lq_sp hB (show ly_E.2.1[22]? = some (13, 400, 400, 0) from rfl)⟩
    obtain ⟨k0, r, J1, e, hcs, hQ⟩ := lc_read (J := nt_I M) (E2 := (0, fun _ => 0)) hP (fun _ _ _ _ => rfl) kr
    obtain ⟨ex, eMR⟩ := lq_out e
    have iR : nt_I MR = J1 := by rw [eMR]; rfl
    have old : ∀ g, g < 66 → g ≠ 19 → g ≠ 21 → g ≠ 22 → nt_I MR (pl g) = nt_I M (pl g) := fun g hg a1 a2 a3 => by
      rw [iR]
      exact lc_Qf hQ (pl g) (ne g 19 hg (by omega) a1) (ne g 21 hg (by omega) a2) (ne g 22 hg (by omega) a3)
    have o1 : ∀ g j, lq_c g j → g ≠ 17 → g ≠ 16 → nt_I M1 (pl g) j = nt_I M (pl g) j := fun g j hc a1 a2 => by
      rw [qo (pl g) j (hp g (lq_c66 hc)) (ne g 17 (lq_c66 hc) (by omega) a1) (ne g 16 (lq_c66 hc) (by omega) a2), old g (lq_c66 hc) (by rcases hc with h | h | h | h | h <;> omega) (by rcases hc with h | h | h | h | h <;> omega) (by rcases hc with h | h | h | h | h <;> omega)]
    have c01 : lq_c 0 1 := Or.inr (Or.inr (Or.inr (Or.inr ⟨rfl, Or.inl rfl⟩)))
    have c02 : lq_c 0 2 := Or.inr (Or.inr (Or.inr (Or.inr ⟨rfl, Or.inr rfl⟩)))
    have c8 : ∀ j, lq_c 8 j := fun j => Or.inr (Or.inr (Or.inl rfl))
    have c18 : ∀ j, lq_c 18 j := fun j => Or.inr (Or.inl rfl)
    have m01 : nt_I M1 (pl 0) 1 = nI t := (o1 0 1 c01 (by decide) (by decide)).trans h01
    have m02 : nt_I M1 (pl 0) 2 = nI n := (o1 0 2 c02 (by decide) (by decide)).trans h02
    have m8 : ∀ j, nt_I M1 (pl 8) j = nt_I M (pl 18) j := fun j => (o1 8 j (c8 j) (by decide) (by decide)).trans (h8 j)
    have m18 : ∀ j, nt_I M1 (pl 18) j = nt_I M (pl 18) j := fun j => o1 18 j (c18 j) (by decide) (by decide)
    have v16 := ly_vI hB1
    rcases md_rule (J := nt_I M1) (hP0 m01 m8) hO hK hby m02 hn e2 with ⟨n6, _⟩ | ⟨n6, r', J2, h3, hw, w1, fr⟩
    · omega
    · obtain ⟨ra, ca, cb⟩ := h3
      have er := lb_cs_det k0 0 _ r r' ra hcs ca cb
      subst er
      have fo : ∀ g, g < 66 → g ≠ 0 → g ≠ 1 → g ≠ 10 → g ≠ 9 → g ≠ 2 → g ≠ 3 → J2 (pl g) = nt_I M1 (pl g) := fun g hg a1 a2 a3 a4 a5 a6 => fr (pl g) (ne g 0 hg (by omega) a1) (ne g 1 hg (by omega) a2) (ne g 10 hg (by omega) a3) (ne g 9 hg (by omega) a4) (ne g 2 hg (by omega) a5) (ne g 3 hg (by omega) a6)
      have fin : ∀ n', n' ≤ 6 → nt_I M1 (pl 16) 4 = nI n' → J2 (pl 0) 2 = nI n' → M2 = me_w M1 J2 → lq_E pl M2 := by
        intro n' hn' q16 q02 eM2
        have i2 : nt_I M2 = J2 := by rw [eM2]; rfl
        refine ⟨0, n', by omega, hn', ?_, ?_, fun j => ?_, fun j => ?_, ?_, ?_⟩
        · rw [i2, fo 17 (by omega) (by decide) (by decide) (by decide) (by decide) (by decide) (by decide)]
          exact q17
        · rw [i2]
          exact w1
        · rw [i2, fo 8 (by omega) (by decide) (by decide) (by decide) (by decide) (by decide) (by decide), fo 18 (by omega) (by decide) (by decide) (by decide) (by decide) (by decide) (by decide), m8 j, m18 j]
        · rw [i2, fo 18 (by omega) (by decide) (by decide) (by decide) (by decide) (by decide) (by decide), m18 j]
          exact hb j
        · rw [i2, fo 16 (by omega) (by decide) (by decide) (by decide) (by decide) (by decide) (by decide)]
          exact q16
        · rw [i2]
          exact q02
      rcases hw with ⟨hrc, e, w2⟩ | ⟨hrc, e, w2⟩ <;> rcases hx with ⟨hx0, ey, ev⟩ | ⟨hx0, ev, u, eu, ey⟩
      · obtain ⟨ey2, eM2⟩ := lq_out e
        refine ⟨by rw [ey, ey2, ex], fin n hn ?_ w2 eM2⟩
        exact Int32.toInt_inj.mp (by rw [v16, ev, vn, nI_toInt (by omega)])
      · rw [ex] at hx0
        exact absurd hx0 hrc
      · rw [ex] at hx0
        exact absurd hrc hx0
      · obtain ⟨ey2, eM2⟩ := lq_out e
        have eun : u = n := by omega
        subst eun
        refine ⟨by rw [ey, ey2], fin (u + 1) (by omega) ?_ w2 eM2⟩
        exact Int32.toInt_inj.mp (by rw [v16, ev, vn, nI_toInt (by omega)]; omega)
/-- what the class's rule leaves alone -/
theorem lq_ruleD {X : nt_X} {pl : Nat → Nat} {v v' mk xi : Nat → Int} {M M1 : nt_M} {y1 : Int32} {t : Nat} (hB : ly_B pl v M) (hS : ly_S pl mk xi (v 2) M) (ht : t ≤ 400) (h17 : nt_I M (pl 17) 1 = nI t) (hR : lq_R X pl v v' 98 y1 M M1) (hD : lq_D pl M) : lq_D pl M1 := by
  have ne := lq_ne hB
  have hS0 := hS
  obtain ⟨⟨p1, p2, p3, p4⟩, _, T, p7, _⟩ := hS
  rcases hR with ⟨_, _, eM⟩ | ⟨_, x, MR, kr, _, qo, qr, _⟩
  · rw [eM]
    exact hD
  · have hP : lc_P M (nt_I M) (nt_I M (pl 18)) t (pl 19) (pl 17) (pl 18) (pl 21) (pl 22) := ⟨⟨ly_ref (g := 19) (j := 0) (k := 17) hB (List.mem_of_getElem? (i := 12) rfl), ly_ref (g := 17) (j := 0) (k := 18) hB (List.mem_of_getElem? (i := 28) rfl), ly_ref (g := 21) (j := 0) (k := 19) hB (List.mem_of_getElem? (i := 10) rfl), ly_ref (g := 21) (j := 1) (k := 22) hB (List.mem_of_getElem? (i := 11) rfl)⟩, ⟨ne 17 19 (by omega) (by omega) (by decide), ne 17 21 (by omega) (by omega) (by decide), ne 17 22 (by omega) (by omega) (by decide), ne 18 19 (by omega) (by omega) (by decide), ne 18 21 (by omega) (by omega) (by decide), ne 18 22 (by omega) (by omega) (by decide), ne 19 21 (by omega) (by omega) (by decide), ne 19 22 (by omega) (by omega) (by decide), ne 21 22 (by omega) (by omega) (by decide)⟩, h17, fun _ => rfl, ht, by have := (hB.2.1.2 22 _ (show ly_E.2.1[22]? = some (13, 400, 400, 0) from rfl)).2.2.1; dsimp only at this; omega, lq_sp hB (show ly_E.2.1[22]? = some (13, 400, 400, 0) from rfl)⟩
    obtain ⟨k0, r, J1, e, hcs, hQ⟩ := lc_read (J := nt_I M) (E2 := (0, fun _ => 0)) hP (fun _ _ _ _ => rfl) kr
    obtain ⟨ex, eMR⟩ := lq_out e
    have iR : nt_I MR = J1 := by rw [eMR]; rfl
    have reg : ∀ g j, g < 66 → g ≠ 17 → g ≠ 16 → g ≠ 19 → g ≠ 21 → g ≠ 22 → nt_I M1 (pl g) j = nt_I M (pl g) j := fun g j hg a1 a2 a3 a4 a5 => by
      have := p1 g hg
      rw [qo (pl g) j (by omega) (ne g 17 hg (by omega) a1) (ne g 16 hg (by omega) a2), iR, lc_Qf hQ (pl g) (ne g 19 hg (by omega) a3) (ne g 21 hg (by omega) a4) (ne g 22 hg (by omega) a5)]
    obtain ⟨⟨d1, d2, d3⟩, d4, d5⟩ := hD
    have r31 := fun j => reg 31 j (by omega) (by decide) (by decide) (by decide) (by decide) (by decide)
    have r4 := fun j => reg 4 j (by omega) (by decide) (by decide) (by decide) (by decide) (by decide)
    have r14 := fun j => reg 14 j (by omega) (by decide) (by decide) (by decide) (by decide) (by decide)
    refine ⟨by rw [r31, r4]; exact ⟨d1, d2, d3⟩, by rw [r31, r4]; exact d4, fun k hk a ha => ?_⟩
    rw [qr k] at ha
    have q := d5 k hk a ha
    rcases p7 k hk with ⟨c, _⟩ | ⟨a', c1, _, c3, c4, _⟩
    · rw [ha] at c
      cases c
    · rw [ha] at c1
      cases c1
      have out : ∀ g, g < 66 → a ≠ pl g := fun g hg e => by have := p1 g hg; omega
      have ia : ∀ j, nt_I M1 a j = nt_I M a j := fun j => by
        rw [qo a j (by omega) (out 17 (by omega)) (out 16 (by omega)), iR, lc_Qf hQ a (out 19 (by omega)) (out 21 (by omega)) (out 22 (by omega))]
      rw [ia, ia, r14, r14]
      exact q
theorem ly_fr_tr {pl : Nat → Nat} {M M1 M2 : nt_M} (h1 : ly_fr 66 pl M M1) (h2 : ly_fr 66 pl M1 M2) : ly_fr 66 pl M M2 := by
  obtain ⟨⟨a1, a2, a3, a4⟩, a5, a6⟩ := h1
  obtain ⟨⟨b1, b2, b3, b4⟩, b5, b6⟩ := h2
  exact ⟨⟨b1.trans a1, b2.trans a2, b3.trans a3, b4.trans a4⟩, fun a ha => ⟨fun j => ((b5 a ha).1 j).trans ((a5 a ha).1 j), fun j => ((b5 a ha).2 j).trans ((a5 a ha).2 j)⟩, fun g j hg => (b6 g j hg).trans (a6 g j hg)⟩
theorem lq_Dmk {pl : Nat → Nat} {mk xi : Nat → Int} {rc : Int} {M M' : nt_M} (hS : ly_S pl mk xi rc M) (hf : ly_fr 66 pl M M') (h8 : ∀ k, k < 4 → (nt_I M' (pl 14) (212 * k)).toInt = (nt_I M (pl 14) (212 * k)).toInt ∧ (nt_I M' (pl 14) (212 * k + 4)).toInt = (nt_I M (pl 14) (212 * k + 4)).toInt) (hd : (nt_I M' (pl 31) 2).toInt = (nt_I M' (pl 4) 4).toInt ∧ 0 ≤ (nt_I M' (pl 4) 4).toInt ∧ (nt_I M' (pl 4) 4).toInt ≤ 200) (ht : (nt_I M' (pl 31) 1).toInt = 1 ↔ 0 < (nt_I M' (pl 4) 0).toInt) (hD : lq_D pl M) : lq_D pl M' := by
  refine ⟨hd, ht, fun k hk a ha => ?_⟩
  obtain ⟨ha, hi⟩ := lq_img hS hf hk ha
  have q := hD.2.2 k hk a ha
  rw [hi 2, hi 1, (h8 k hk).1, (h8 k hk).2]
  exact q
theorem lq_k8 {P : Nat → Prop} (h0 : P 0) (h1 : P 1) (h2 : P 2) (h3 : P 3) : ∀ k, k < 4 → P k := by
  intro k hk
  rcases (by omega : k = 0 ∨ k = 1 ∨ k = 2 ∨ k = 3) with rfl | rfl | rfl | rfl
  · exact h0
  · exact h1
  · exact h2
  · exact h3
/-- days, both sides -/
theorem lq_days2 {X : nt_X} {pl : Nat → Nat} {v mk xi : Nat → Int} {M M1 M2 : nt_M} {y1 y2 ru n : Int32} (hB : ly_B pl v M) (hS : ly_S pl mk xi (v 2) M) (hE : lq_E pl M) (hD : lq_D pl M) (hB1 : ly_B pl v M1) (f1 : ly_fs pl M M1) (f2 : ly_fs pl M1 M2) (e1 : nt_ev X 99 110 [.ref (pl 16), .int ru, .int n] M (some (.int y1), M1)) (e2 : nt_ev X 99 186 [.ref (pl 0), .int ru, .int n] M1 (some (.int y2), M2)) : y1 = y2 ∧ lq_D pl M2 := by
  obtain ⟨t, nn, ht, hn, h17, h01, h8, hb, h16, h02⟩ := hE
  have hD0 := hD
  obtain ⟨⟨d1, d2, d3⟩, d4, d5⟩ := hD
  have vn := ly_vI hB
  rw [h16] at vn
  have rn : (nt_I M1 (pl 0) 2).toInt = v 2 := by rw [f1.2 0 2 (Or.inr (Or.inr (Or.inr (Or.inr ⟨rfl, Or.inr rfl⟩)))), h02]; exact vn
  obtain ⟨y, M', e, hc⟩ := lq_daysC hB hS ⟨by omega, by omega⟩ ⟨d2, d3⟩ e1
  obtain ⟨ey, eM⟩ := lq_out e
  subst ey
  subst eM
  have fr := ly_fr_tr f1.1 f2.1
  obtain ⟨bt, bs⟩ := lq_bt hB
  rcases hc with ⟨hok, hy, hday, c1, c3, c4, i0, i1, i2, i3, j0, j1, j2, j3⟩ | ⟨hok, hy, c1, c2, c3, c4, i0, i1, i2, i3, j0, j1, j2, j3⟩
  · obtain ⟨y', M'', e, hr⟩ := lq_daysR hB1 ⟨by omega, by omega⟩ ⟨by omega, by omega⟩ e2
    obtain ⟨ey, eM⟩ := lq_out e
    subst ey
    subst eM
    rcases hr with ⟨hok', hy', hday', k1, k2, k3, l0, l1, l2, l3, m0, m1, m2, m3⟩ | ⟨hok', hy', k1, k2, k3, k4, l0, l1, l2, l3, m0, m1, m2, m3⟩
    · refine ⟨Int32.toInt_inj.mp (by omega), lq_Dmk hS fr (lq_k8 ⟨l0.trans i0, m0.trans j0⟩ ⟨l1.trans i1, m1.trans j1⟩ ⟨l2.trans i2, m2.trans j2⟩ ⟨l3.trans i3, m3.trans j3⟩) ⟨by omega, by omega, by omega⟩ (by rw [k1, k3, c1, c3]; exact d4) hD0⟩
    · exact absurd ⟨by have := d4.mp (by omega); omega, by omega, by omega, by omega, by omega⟩ hok'
  · obtain ⟨y', M'', e, hr⟩ := lq_daysR hB1 ⟨by omega, by omega⟩ ⟨by omega, by omega⟩ e2
    obtain ⟨ey, eM⟩ := lq_out e
    subst ey
    subst eM
    rcases hr with ⟨hok', hy', hday', k1, k2, k3, l0, l1, l2, l3, m0, m1, m2, m3⟩ | ⟨hok', hy', k1, k2, k3, k4, l0, l1, l2, l3, m0, m1, m2, m3⟩
    · exact absurd ⟨by have := d4.mpr (by omega); omega, by omega, by omega, by omega, by omega⟩ hok
    · refine ⟨Int32.toInt_inj.mp (by omega), lq_Dmk hS fr (lq_k8 ⟨l0.trans i0, m0.trans j0⟩ ⟨l1.trans i1, m1.trans j1⟩ ⟨l2.trans i2, m2.trans j2⟩ ⟨l3.trans i3, m3.trans j3⟩) ⟨by omega, by omega, by omega⟩ (by rw [k1, k3, c1, c3]; exact d4) hD0⟩
theorem lq_aheadC {X : nt_X} {pl : Nat → Nat} {v mk xi : Nat → Int} {M : nt_M} {o : Option Value × nt_M} {ru b0 b1 : Int32} (hB : ly_B pl v M) (hS : ly_S pl mk xi (v 2) M) (k : nt_ev X 99 123 [.ref (pl 16), .int ru, .int b0, .int b1] M o) : lq_s12 pl M o.2 := by
  obtain ⟨bt, bs⟩ := lq_bt hB
  have hv2 := ly_ob hB (2, 0, 6) (List.mem_of_getElem? (i := 2) rfl)
  dsimp only at hv2
  have la := ru.le_toInt
  have lb := ru.toInt_lt
  by_cases q1 : ru.toInt = -1
  · rw [lq_m1 q1] at k
    obtain ⟨y, M', rfl, h⟩ := lwd_n_aheadN (by decide) hB bt bs k
    exact h
  by_cases q2 : ru.toInt < -1
  · obtain ⟨y, M', rfl, h⟩ := lwd_n_aheadL (by decide) hB bt bs ⟨by omega, by omega⟩ k
    exact h
  by_cases q3 : v 2 ≤ ru.toInt
  · obtain ⟨y, M', rfl, h⟩ := lwd_n_aheadH (by decide) hB bt bs (by omega) k
    exact h
  · obtain ⟨y, M', rfl, h⟩ := lwd_n_aheadR (by decide) hB hS bt bs ⟨by omega, by omega⟩ (by omega) k
    exact h
theorem lq_aheadR {X : nt_X} {pl : Nat → Nat} {v : Nat → Int} {M : nt_M} {o : Option Value × nt_M} {ru b0 b1 : Int32} (hB : ly_B pl v M) (k : nt_ev X 99 226 [.ref (pl 0), .int ru, .int b0, .int b1] M o) : lq_s12 pl M o.2 := by
  obtain ⟨bt, bs⟩ := lq_bt hB
  have hv2 := ly_ob hB (2, 0, 6) (List.mem_of_getElem? (i := 2) rfl)
  dsimp only at hv2
  have la := ru.le_toInt
  have lb := ru.toInt_lt
  have hR : (0 : Int) ≤ (nt_I M (pl 0) 2).toInt ∧ (nt_I M (pl 0) 2).toInt ≤ 6 := (hB.2.1.2 0 _ (show ly_E.2.1[0]? = some (11, 0, 0, 9) from rfl)).2.2.2.2 2
  by_cases q1 : ru.toInt = -1
  · rw [lq_m1 q1] at k
    obtain ⟨y, M', rfl, h⟩ := lwd_aheadN (by decide) hB bt bs k
    exact h
  by_cases q2 : ru.toInt < -1
  · obtain ⟨y, M', rfl, h⟩ := lwd_aheadL (by decide) hB bt bs ⟨by omega, by omega⟩ k
    exact h
  by_cases q3 : (nt_I M (pl 0) 2).toInt ≤ ru.toInt
  · obtain ⟨y, M', rfl, h⟩ := lwd_aheadH (by decide) hB bt bs hR (by omega) k
    exact h
  · obtain ⟨y, M', rfl, h⟩ := lwd_aheadR (by decide) hB bt bs hR ⟨by omega, by omega⟩ (by omega) k
    exact h
theorem lq_yearsC {X : nt_X} {pl : Nat → Nat} {v mk xi : Nat → Int} {M : nt_M} {o : Option Value × nt_M} {ru b0 b1 b2 b3 : Int32} (hB : ly_B pl v M) (hS : ly_S pl mk xi (v 2) M) (k : nt_ev X 99 125 [.ref (pl 16), .int ru, .int b0, .int b1, .int b2, .int b3] M o) : lq_s12 pl M o.2 := by
  obtain ⟨bt, bs⟩ := lq_bt hB
  have hv2 := ly_ob hB (2, 0, 6) (List.mem_of_getElem? (i := 2) rfl)
  dsimp only at hv2
  have la := ru.le_toInt
  have lb := ru.toInt_lt
  by_cases q1 : ru.toInt = -1
  · rw [lq_m1 q1] at k
    obtain ⟨y, M', rfl, h⟩ := lwd_n_yearsN (by decide) hB bt bs k
    exact h
  by_cases q2 : ru.toInt < -1
  · obtain ⟨y, M', rfl, h⟩ := lwd_n_yearsL (by decide) hB bt bs ⟨by omega, by omega⟩ k
    exact h
  by_cases q3 : v 2 ≤ ru.toInt
  · obtain ⟨y, M', rfl, h⟩ := lwd_n_yearsH (by decide) hB bt bs (by omega) k
    exact h
  · obtain ⟨y, M', rfl, h⟩ := lwd_n_yearsR (by decide) hB hS bt bs ⟨by omega, by omega⟩ (by omega) k
    exact h
theorem lq_yearsR {X : nt_X} {pl : Nat → Nat} {v : Nat → Int} {M : nt_M} {o : Option Value × nt_M} {ru b0 b1 b2 b3 : Int32} (hB : ly_B pl v M) (k : nt_ev X 99 231 [.ref (pl 0), .int ru, .int b0, .int b1, .int b2, .int b3] M o) : lq_s12 pl M o.2 := by
  obtain ⟨bt, bs⟩ := lq_bt hB
  have hv2 := ly_ob hB (2, 0, 6) (List.mem_of_getElem? (i := 2) rfl)
  dsimp only at hv2
  have la := ru.le_toInt
  have lb := ru.toInt_lt
  have hR : (0 : Int) ≤ (nt_I M (pl 0) 2).toInt ∧ (nt_I M (pl 0) 2).toInt ≤ 6 := (hB.2.1.2 0 _ (show ly_E.2.1[0]? = some (11, 0, 0, 9) from rfl)).2.2.2.2 2
  by_cases q1 : ru.toInt = -1
  · rw [lq_m1 q1] at k
    obtain ⟨y, M', rfl, h⟩ := lwd_yearsN (by decide) hB bt bs k
    exact h
  by_cases q2 : ru.toInt < -1
  · obtain ⟨y, M', rfl, h⟩ := lwd_yearsL (by decide) hB bt bs ⟨by omega, by omega⟩ k
    exact h
  by_cases q3 : (nt_I M (pl 0) 2).toInt ≤ ru.toInt
  · obtain ⟨y, M', rfl, h⟩ := lwd_yearsH (by decide) hB bt bs hR (by omega) k
    exact h
  · obtain ⟨y, M', rfl, h⟩ := lwd_yearsR (by decide) hB bt bs hR ⟨by omega, by omega⟩ (by omega) k
    exact h
def ly_Inv (M : nt_M) : Prop := ∃ (pl : Nat → Nat) (v : Nat → Int), ly_B pl v M ∧ ly_S pl (fun k => v (3 + k)) (fun k => v (7 + k)) (v 2) M ∧ v 0 = v 1 ∧ lq_E pl M ∧ lq_D pl M
theorem ly_S_cg {pl : Nat → Nat} {mk xi mk' xi' : Nat → Int} {rc rc' : Int} {M : nt_M} (h1 : ∀ k, k < 4 → mk' k = mk k) (h2 : ∀ k, k < 4 → xi' k = xi k) (h3 : rc' = rc) (h : ly_S pl mk xi rc M) : ly_S pl mk' xi' rc' M := by
  obtain ⟨p0, ⟨p5, p6⟩, T, p7, p8⟩ := h
  rw [h3]
  refine ⟨p0, ⟨by rw [h1 0 (by omega), h1 1 (by omega), h1 2 (by omega), h1 3 (by omega)]; exact p5, by rw [h1 0 (by omega), h1 1 (by omega), h1 2 (by omega), h1 3 (by omega)]; exact p6⟩, T, fun k hk => ?_, p8⟩
  rw [h1 k hk, h2 k hk]
  exact p7 k hk
/-- both sides of a call -/
def ly_P (X : nt_X) (gc gr : Nat) (as : List Value) (M : nt_M) (Q : Int32 → Int32 → Prop) : Prop := ∃ (y1 : Int32) (M1 : nt_M) (y2 : Int32) (M2 : nt_M), nt_ev X 99 gc (.ref 0 :: as) M (some (.int y1), M1) ∧ nt_ev X 99 gr (.ref 50 :: as) M1 (some (.int y2), M2) ∧ ly_Inv M2 ∧ Q y1 y2 ∧ 50 < nt_n M1 ∧ nt_k M1 50 = 11
theorem ly_50 {pl : Nat → Nat} {v : Nat → Int} {M : nt_M} (hB : ly_B pl v M) (h : pl 0 = 50) : 50 < nt_n M ∧ nt_k M 50 = 11 := by
  have g := hB.2.1.2 0 _ (show ly_E.2.1[0]? = some (11, 0, 0, 9) from rfl)
  rw [h] at g
  exact ⟨g.1, g.2.1⟩
theorem ly_two {X : nt_X} {gc gr : Nat} {as : List Value} {M : nt_M} (hI : ly_Inv M) (h1 : ∀ pl v, ly_B pl v M → ly_S pl (fun k => v (3 + k)) (fun k => v (7 + k)) (v 2) M → ∃ (x : Int32) (M' : nt_M), nt_ev X 99 gc (.ref (pl 16) :: as) M (some (.int x), M') ∧ ly_B pl v M' ∧ ly_fs pl M M') (h2 : ∀ pl v M, ly_B pl v M → ∃ (x : Int32) (M' : nt_M), nt_ev X 99 gr (.ref (pl 0) :: as) M (some (.int x), M') ∧ ly_B pl v M' ∧ ly_fs pl M M') (g1 : ∀ pl (v : Nat → Int) o, ly_B pl v M → ly_S pl (fun k => v (3 + k)) (fun k => v (7 + k)) (v 2) M → nt_ev X 99 gc (.ref (pl 16) :: as) M o → lq_s12 pl M o.2) (g2 : ∀ pl (v : Nat → Int) M o, ly_B pl v M → nt_ev X 99 gr (.ref (pl 0) :: as) M o → lq_s12 pl M o.2) : ly_P X gc gr as M (fun _ _ => True) := by
  obtain ⟨pl, v, hB, hS, hx, hE, hD⟩ := hI
  obtain ⟨y1, M1, e1, hB1, f1⟩ := h1 pl v hB hS
  obtain ⟨y2, M2, e2, hB2, f2⟩ := h2 pl v M1 hB1
  have p16 := hS.1.2.1
  have p0 := hS.1.2.2.1
  have hD1 : lq_D pl M1 := lq_DK (g1 pl v _ hB hS e1) hS f1.1 hD
  have hD2 : lq_D pl M2 := lq_DK (g2 pl v _ _ hB1 e2) (ly_S_fr f1.1 hS) f2.1 hD1
  rw [p16] at e1
  rw [p0] at e2
  exact ⟨y1, M1, y2, M2, e1, e2, ⟨pl, v, hB2, ly_S_fr f2.1 (ly_S_fr f1.1 hS), hx, lq_keep f2.2 (lq_keep f1.2 hE), hD2⟩, trivial, ly_50 hB1 p0⟩
theorem ly_c_feed {X : nt_X} {M : nt_M} (a0 a1 a2 a3 a4 : Int32) (hI : ly_Inv M) : ly_P X 102 130 [.int a0, .int a1, .int a2, .int a3, .int a4] M (fun y1 y2 => y1 = y2) := by
  obtain ⟨pl, v, hB, hS, hx, hE, hD⟩ := hI
  obtain ⟨y1, M1, e1, hB1, f1⟩ := ly_g5W a0 a1 a2 a3 a4 (ko_w_n_feed X) rfl (by decide +kernel) (by decide +kernel) (d := 99) (by decide) hB
  obtain ⟨y2, M2, e2, hB2, f2⟩ := ly_g5W a0 a1 a2 a3 a4 (ko_w_feed X) rfl (by decide +kernel) (by decide +kernel) (d := 99) (by decide) hB1
  have key := lq_feed2 hB hB1 hE e1 e2
  have hD1 : lq_D pl M1 := by
    obtain ⟨y, M', e, h⟩ := lwd_n_feed (by decide) hB (lq_bt hB).1 (lq_bt hB).2 e1
    obtain ⟨_, eM⟩ := lq_out e
    rw [eM]
    exact lq_DK h hS (eM ▸ f1) hD
  have hD2 : lq_D pl M2 := by
    obtain ⟨y, M', e, h⟩ := lwd_feed (by decide) hB1 (lq_bt hB1).1 (lq_bt hB1).2 e2
    obtain ⟨_, eM⟩ := lq_out e
    rw [eM]
    exact lq_DK h (ly_S_fr f1 hS) (eM ▸ f2) hD1
  rw [hS.1.2.1] at e1
  rw [hS.1.2.2.1] at e2
  exact ⟨y1, M1, y2, M2, e1, e2, ⟨pl, v, hB2, ly_S_fr f2 (ly_S_fr f1 hS), hx, key.2, hD2⟩, key.1, ly_50 hB1 hS.1.2.2.1⟩
theorem ly_c_end {X : nt_X} {M : nt_M} (a0 : Int32) (hI : ly_Inv M) : ly_P X 103 132 [.int a0] M (fun y1 y2 => y1 = y2) := by
  obtain ⟨pl, v, hB, hS, hx, hE, hD⟩ := hI
  obtain ⟨y1, M1, e1, hB1, f1⟩ := ly_g1W a0 (ko_w_n_end X) rfl (by decide +kernel) (by decide +kernel) (d := 99) (by decide) hB
  obtain ⟨y2, M2, e2, hB2, f2⟩ := ly_g1W a0 (ko_w_end X) rfl (by decide +kernel) (by decide +kernel) (d := 99) (by decide) hB1
  have key := lq_end2 hB hE e1 e2
  have hD1 : lq_D pl M1 := by
    obtain ⟨y, M', e, h⟩ := lwd_n_end (by decide) hB (lq_bt hB).1 (lq_bt hB).2 e1
    obtain ⟨_, eM⟩ := lq_out e
    rw [eM]
    exact lq_DK h hS (eM ▸ f1) hD
  have hD2 : lq_D pl M2 := by
    obtain ⟨y, M', e, h⟩ := lwd_end (by decide) hB1 (lq_bt hB1).1 (lq_bt hB1).2 e2
    obtain ⟨_, eM⟩ := lq_out e
    rw [eM]
    exact lq_DK h (ly_S_fr f1 hS) (eM ▸ f2) hD1
  rw [hS.1.2.1] at e1
  rw [hS.1.2.2.1] at e2
  exact ⟨y1, M1, y2, M2, e1, e2, ⟨pl, v, hB2, ly_S_fr f2 (ly_S_fr f1 hS), hx, key.2, hD2⟩, key.1, ly_50 hB1 hS.1.2.2.1⟩
theorem ly_c_ship {X : nt_X} {M : nt_M} (a0 a1 : Int32) (hI : ly_Inv M) : ly_P X 106 167 [.int a0, .int a1] M (fun _ _ => True) :=
  ly_two hI (fun pl v hB _ => ly_g2 a0 a1 (ko_w_n_ship X) rfl (by decide +kernel) (by decide +kernel) (by decide) hB) (fun pl v M hB => ly_g2 a0 a1 (ko_w_ship X) rfl (by decide +kernel) (by decide +kernel) (by decide) hB) (fun pl v o hB _ k => by obtain ⟨y, M', rfl, h⟩ := lwd_n_ship (by decide) hB (lq_bt hB).1 (lq_bt hB).2 k; exact h) (fun pl v M o hB k => by obtain ⟨y, M', rfl, h⟩ := lwd_ship (by decide) hB (lq_bt hB).1 (lq_bt hB).2 k; exact h)
theorem ly_c_plank {X : nt_X} {M : nt_M} (a0 a1 : Int32) (hI : ly_Inv M) : ly_P X 107 176 [.int a0, .int a1] M (fun _ _ => True) :=
  ly_two hI (fun pl v hB _ => ly_g2 a0 a1 (ko_w_n_plank X) rfl (by decide +kernel) (by decide +kernel) (by decide) hB) (fun pl v M hB => ly_g2 a0 a1 (ko_w_plank X) rfl (by decide +kernel) (by decide +kernel) (by decide) hB) (fun pl v o hB _ k => by obtain ⟨y, M', rfl, h⟩ := lwd_n_plank (by decide) hB (lq_bt hB).1 (lq_bt hB).2 k; exact h) (fun pl v M o hB k => by obtain ⟨y, M', rfl, h⟩ := lwd_plank (by decide) hB (lq_bt hB).1 (lq_bt hB).2 k; exact h)
theorem ly_c_voyage {X : nt_X} {M : nt_M} (a0 a1 : Int32) (hI : ly_Inv M) : ly_P X 108 178 [.int a0, .int a1] M (fun _ _ => True) :=
  ly_two hI (fun pl v hB _ => ly_g2 a0 a1 (ko_w_n_voyage X) rfl (by decide +kernel) (by decide +kernel) (by decide) hB) (fun pl v M hB => ly_g2 a0 a1 (ko_w_voyage X) rfl (by decide +kernel) (by decide +kernel) (by decide) hB) (fun pl v o hB _ k => by obtain ⟨y, M', rfl, h⟩ := lwd_n_voyage (by decide) hB (lq_bt hB).1 (lq_bt hB).2 k; exact h) (fun pl v M o hB k => by obtain ⟨y, M', rfl, h⟩ := lwd_voyage (by decide) hB (lq_bt hB).1 (lq_bt hB).2 k; exact h)
theorem ly_c_move {X : nt_X} {M : nt_M} (a0 a1 : Int32) (hI : ly_Inv M) : ly_P X 109 181 [.int a0, .int a1] M (fun _ _ => True) :=
  ly_two hI (fun pl v hB _ => ly_g2 a0 a1 (ko_w_n_move X) rfl (by decide +kernel) (by decide +kernel) (by decide) hB) (fun pl v M hB => ly_g2 a0 a1 (ko_w_move X) rfl (by decide +kernel) (by decide +kernel) (by decide) hB) (fun pl v o hB _ k => by obtain ⟨y, M', rfl, h⟩ := lwd_n_move (by decide) hB (lq_bt hB).1 (lq_bt hB).2 k; exact h) (fun pl v M o hB k => by obtain ⟨y, M', rfl, h⟩ := lwd_move (by decide) hB (lq_bt hB).1 (lq_bt hB).2 k; exact h)
theorem ly_c_lacks {X : nt_X} {M : nt_M} (a0 a1 : Int32) (hI : ly_Inv M) : ly_P X 113 203 [.int a0, .int a1] M (fun _ _ => True) :=
  ly_two hI (fun pl v hB _ => ly_g2 a0 a1 (ko_w_n_lacks X) rfl (by decide +kernel) (by decide +kernel) (by decide) hB) (fun pl v M hB => ly_g2 a0 a1 (ko_w_lacks X) rfl (by decide +kernel) (by decide +kernel) (by decide) hB) (fun pl v o hB _ k => by obtain ⟨y, M', rfl, h⟩ := lwd_n_lacks (by decide) hB (lq_bt hB).1 (lq_bt hB).2 k; exact h) (fun pl v M o hB k => by obtain ⟨y, M', rfl, h⟩ := lwd_lacks (by decide) hB (lq_bt hB).1 (lq_bt hB).2 k; exact h)
theorem ly_c_together {X : nt_X} {M : nt_M} (a0 : Int32) (hI : ly_Inv M) : ly_P X 114 204 [.int a0] M (fun _ _ => True) :=
  ly_two hI (fun pl v hB _ => ly_g1 a0 (ko_w_n_together X) rfl (by decide +kernel) (by decide +kernel) (by decide) hB) (fun pl v M hB => ly_g1 a0 (ko_w_together X) rfl (by decide +kernel) (by decide +kernel) (by decide) hB) (fun pl v o hB _ k => by obtain ⟨y, M', rfl, h⟩ := lwd_n_together (by decide) hB (lq_bt hB).1 (lq_bt hB).2 k; exact h) (fun pl v M o hB k => by obtain ⟨y, M', rfl, h⟩ := lwd_together (by decide) hB (lq_bt hB).1 (lq_bt hB).2 k; exact h)
theorem ly_c_cut {X : nt_X} {M : nt_M} (a0 a1 : Int32) (hI : ly_Inv M) : ly_P X 116 211 [.int a0, .int a1] M (fun _ _ => True) :=
  ly_two hI (fun pl v hB _ => ly_g2 a0 a1 (ko_w_n_cut X) rfl (by decide +kernel) (by decide +kernel) (by decide) hB) (fun pl v M hB => ly_g2 a0 a1 (ko_w_cut X) rfl (by decide +kernel) (by decide +kernel) (by decide) hB) (fun pl v o hB _ k => by obtain ⟨y, M', rfl, h⟩ := lwd_n_cut (by decide) hB (lq_bt hB).1 (lq_bt hB).2 k; exact h) (fun pl v M o hB k => by obtain ⟨y, M', rfl, h⟩ := lwd_cut (by decide) hB (lq_bt hB).1 (lq_bt hB).2 k; exact h)
theorem ly_c_most {X : nt_X} {M : nt_M} (a0 : Int32) (hI : ly_Inv M) : ly_P X 117 212 [.int a0] M (fun _ _ => True) :=
  ly_two hI (fun pl v hB _ => ly_g1 a0 (ko_w_n_most X) rfl (by decide +kernel) (by decide +kernel) (by decide) hB) (fun pl v M hB => ly_g1 a0 (ko_w_most X) rfl (by decide +kernel) (by decide +kernel) (by decide) hB) (fun pl v o hB _ k => by obtain ⟨y, M', rfl, h⟩ := lwd_n_most (by decide) hB (lq_bt hB).1 (lq_bt hB).2 k; exact h) (fun pl v M o hB k => by obtain ⟨y, M', rfl, h⟩ := lwd_most (by decide) hB (lq_bt hB).1 (lq_bt hB).2 k; exact h)
theorem ly_c_willDo {X : nt_X} {M : nt_M} (a0 : Int32) (hI : ly_Inv M) : ly_P X 118 215 [.int a0] M (fun _ _ => True) :=
  ly_two hI (fun pl v hB _ => ly_g1 a0 (ko_w_n_willDo X) rfl (by decide +kernel) (by decide +kernel) (by decide) hB) (fun pl v M hB => ly_g1 a0 (ko_w_willDo X) rfl (by decide +kernel) (by decide +kernel) (by decide) hB) (fun pl v o hB _ k => by obtain ⟨y, M', rfl, h⟩ := lwd_n_willDo (by decide) hB (lq_bt hB).1 (lq_bt hB).2 k; exact h) (fun pl v M o hB k => by obtain ⟨y, M', rfl, h⟩ := lwd_willDo (by decide) hB (lq_bt hB).1 (lq_bt hB).2 k; exact h)
theorem ly_c_same {X : nt_X} {M : nt_M} (a0 a1 : Int32) (hI : ly_Inv M) : ly_P X 119 217 [.int a0, .int a1] M (fun _ _ => True) :=
  ly_two hI (fun pl v hB _ => ly_g2 a0 a1 (ko_w_n_same X) rfl (by decide +kernel) (by decide +kernel) (by decide) hB) (fun pl v M hB => ly_g2 a0 a1 (ko_w_same X) rfl (by decide +kernel) (by decide +kernel) (by decide) hB) (fun pl v o hB _ k => by obtain ⟨y, M', rfl, h⟩ := lwd_n_same (by decide) hB (lq_bt hB).1 (lq_bt hB).2 k; exact h) (fun pl v M o hB k => by obtain ⟨y, M', rfl, h⟩ := lwd_same (by decide) hB (lq_bt hB).1 (lq_bt hB).2 k; exact h)
theorem ly_c_unlike {X : nt_X} {M : nt_M} (hI : ly_Inv M) : ly_P X 120 221 [] M (fun _ _ => True) :=
  ly_two hI (fun pl v hB _ => ly_g0  (ko_w_n_unlike X) rfl (by decide +kernel) (by decide +kernel) (by decide) hB) (fun pl v M hB => ly_g0  (ko_w_unlike X) rfl (by decide +kernel) (by decide +kernel) (by decide) hB) (fun pl v o hB _ k => by obtain ⟨y, M', rfl, h⟩ := lwd_n_unlike (by decide) hB (lq_bt hB).1 (lq_bt hB).2 k; exact h) (fun pl v M o hB k => by obtain ⟨y, M', rfl, h⟩ := lwd_unlike (by decide) hB (lq_bt hB).1 (lq_bt hB).2 k; exact h)
theorem ly_c_wreck {X : nt_X} {M : nt_M} (a0 a1 : Int32) (hI : ly_Inv M) : ly_P X 121 222 [.int a0, .int a1] M (fun _ _ => True) :=
  ly_two hI (fun pl v hB _ => ly_g2 a0 a1 (ko_w_n_wreck X) rfl (by decide +kernel) (by decide +kernel) (by decide) hB) (fun pl v M hB => ly_g2 a0 a1 (ko_w_wreck X) rfl (by decide +kernel) (by decide +kernel) (by decide) hB) (fun pl v o hB _ k => by obtain ⟨y, M', rfl, h⟩ := lwd_n_wreck (by decide) hB (lq_bt hB).1 (lq_bt hB).2 k; exact h) (fun pl v M o hB k => by obtain ⟨y, M', rfl, h⟩ := lwd_wreck (by decide) hB (lq_bt hB).1 (lq_bt hB).2 k; exact h)
theorem ly_c_dealt {X : nt_X} {M : nt_M} (a0 : Int32) (hI : ly_Inv M) : ly_P X 122 223 [.int a0] M (fun _ _ => True) :=
  ly_two hI (fun pl v hB _ => ly_g1 a0 (ko_w_n_dealt X) rfl (by decide +kernel) (by decide +kernel) (by decide) hB) (fun pl v M hB => ly_g1 a0 (ko_w_dealt X) rfl (by decide +kernel) (by decide +kernel) (by decide) hB) (fun pl v o hB _ k => by obtain ⟨y, M', rfl, h⟩ := lwd_n_dealt (by decide) hB (lq_bt hB).1 (lq_bt hB).2 k; exact h) (fun pl v M o hB k => by obtain ⟨y, M', rfl, h⟩ := lwd_dealt (by decide) hB (lq_bt hB).1 (lq_bt hB).2 k; exact h)
theorem ly_c_count {X : nt_X} {M : nt_M} (a0 : Int32) (hI : ly_Inv M) : ly_P X 126 233 [.int a0] M (fun _ _ => True) :=
  ly_two hI (fun pl v hB _ => ly_g1 a0 (ko_w_n_count X) rfl (by decide +kernel) (by decide +kernel) (by decide) hB) (fun pl v M hB => ly_g1 a0 (ko_w_count X) rfl (by decide +kernel) (by decide +kernel) (by decide) hB) (fun pl v o hB _ k => by obtain ⟨y, M', rfl, h⟩ := lwd_n_count (by decide) hB (lq_bt hB).1 (lq_bt hB).2 k; exact h) (fun pl v M o hB k => by obtain ⟨y, M', rfl, h⟩ := lwd_count (by decide) hB (lq_bt hB).1 (lq_bt hB).2 k; exact h)
theorem ly_c_days {X : nt_X} {M : nt_M} (a0 a1 : Int32) (hI : ly_Inv M) : ly_P X 110 186 [.int a0, .int a1] M (fun y1 y2 => y1 = y2) := by
  obtain ⟨pl, v, hB, hS, hx, hE, hD⟩ := hI
  obtain ⟨y1, M1, e1, hB1, f1⟩ := ly_days_C (X := X) (d := 99) a0 a1 (by decide) hB hS
  obtain ⟨y2, M2, e2, hB2, f2⟩ := ly_days_R (X := X) (d := 99) a0 a1 (by decide) hB1
  have key := lq_days2 hB hS hE hD hB1 f1 f2 e1 e2
  rw [hS.1.2.1] at e1
  rw [hS.1.2.2.1] at e2
  exact ⟨y1, M1, y2, M2, e1, e2, ⟨pl, v, hB2, ly_S_fr f2.1 (ly_S_fr f1.1 hS), hx, lq_keep f2.2 (lq_keep f1.2 hE), key.2⟩, key.1, ly_50 hB1 hS.1.2.2.1⟩
theorem ly_c_ahead {X : nt_X} {M : nt_M} (a0 a1 a2 : Int32) (hI : ly_Inv M) : ly_P X 123 226 [.int a0, .int a1, .int a2] M (fun _ _ => True) :=
  ly_two hI (fun pl v hB hS => ly_ahead_C a0 a1 a2 (by decide) hB hS) (fun pl v M hB => ly_ahead_R a0 a1 a2 (by decide) hB) (fun pl v o hB hS k => lq_aheadC hB hS k) (fun pl v M o hB k => lq_aheadR hB k)
theorem ly_c_years {X : nt_X} {M : nt_M} (a0 a1 a2 a3 a4 : Int32) (hI : ly_Inv M) : ly_P X 125 231 [.int a0, .int a1, .int a2, .int a3, .int a4] M (fun _ _ => True) :=
  ly_two hI (fun pl v hB hS => ly_years_C a0 a1 a2 a3 a4 (by decide) hB hS) (fun pl v M hB => ly_years_R a0 a1 a2 a3 a4 (by decide) hB) (fun pl v o hB hS k => lq_yearsC hB hS k) (fun pl v M o hB k => lq_yearsR hB k)
theorem ly_c_yard {X : nt_X} {M : nt_M} (hI : ly_Inv M) : ly_P X 104 166 [] M (fun y1 y2 => y1 = y2) := by
  obtain ⟨pl, v, hB, hS, hx, hE, hD⟩ := hI
  obtain ⟨y1, M1, pl', e1, hB1, f1, hp⟩ := ly_yardC (X := X) (d := 99) (by decide) hB
  have hS1 : ly_S pl' (fun k => v (3 + k)) (fun k => v (7 + k)) (v 2) M1 := by
    rcases hp with rfl | rfl
    · exact ly_S_fr f1 hS
    · exact ly_S_sg (ly_S_fr f1 hS)
  obtain ⟨y2, M2, e2, hB2, f2⟩ := ly_g0W (ko_w_yard X) rfl (by decide +kernel) (by decide +kernel) (d := 99) (by decide) hB1
  have s0 : pl' 0 = pl 0 := by rcases hp with rfl | rfl <;> rfl
  have s8 : pl' 8 = pl 8 := by rcases hp with rfl | rfl <;> rfl
  have s16 : pl' 16 = pl 16 := by rcases hp with rfl | rfl <;> rfl
  have s17 : pl' 17 = pl 17 := by rcases hp with rfl | rfl <;> rfl
  have s18 : pl' 18 = pl 18 := by rcases hp with rfl | rfl <;> rfl
  have hE2 : lq_E pl' M2 := by
    obtain ⟨t, n, ht, hn, h17, h01, h8, hb, h16, h02⟩ := hE
    obtain ⟨a17, ao, _⟩ := lq_yardC (by decide) hB e1
    obtain ⟨b01, bo, _⟩ := lq_yardR (by decide) hB1 e2
    dsimp only at a17 ao b01 bo
    have c02 : lq_c 0 2 := Or.inr (Or.inr (Or.inr (Or.inr ⟨rfl, Or.inr rfl⟩)))
    have c8 : ∀ j, lq_c 8 j := fun j => Or.inr (Or.inr (Or.inl rfl))
    have c18 : ∀ j, lq_c 18 j := fun j => Or.inr (Or.inl rfl)
    have c16 : lq_c 16 4 := Or.inr (Or.inr (Or.inr (Or.inl ⟨rfl, rfl⟩)))
    refine ⟨0, n, by omega, hn, ?_, b01, fun j => ?_, fun j => ?_, ?_, ?_⟩
    · rw [bo 17 1 (Or.inl rfl) (by omega), s17]
      exact a17
    · rw [bo 8 j (c8 j) (by omega), bo 18 j (c18 j) (by omega), s8, s18, ao 8 j (c8 j) (by decide), ao 18 j (c18 j) (by decide)]
      exact h8 j
    · rw [bo 18 j (c18 j) (by omega), s18, ao 18 j (c18 j) (by decide)]
      exact hb j
    · rw [bo 16 4 c16 (by omega), s16, ao 16 4 c16 (by decide)]
      exact h16
    · rw [bo 0 2 c02 (by omega), s0, ao 0 2 c02 (by decide)]
      exact h02
  have key : y1 = y2 ∧ lq_D pl' M2 := by
    obtain ⟨t, n, ht, hn, h17, h01, h8, hb, h16, h02⟩ := hE
    obtain ⟨a17, ao, af⟩ := lq_yardC (by decide) hB e1
    obtain ⟨_, _, bf⟩ := lq_yardR (by decide) hB1 e2
    dsimp only at a17 ao af bf
    have c01 : lq_c 0 1 := Or.inr (Or.inr (Or.inr (Or.inr ⟨rfl, Or.inl rfl⟩)))
    have c8 : ∀ j, lq_c 8 j := fun j => Or.inr (Or.inr (Or.inl rfl))
    have s4 : pl' 4 = pl 4 := by rcases hp with rfl | rfl <;> rfl
    have s14 : pl' 14 = pl 14 := by rcases hp with rfl | rfl <;> rfl
    have s65 : pl' 65 = pl 65 := by rcases hp with rfl | rfl <;> rfl
    obtain ⟨n1, r1, q1, w1⟩ := lq_yardA hB ht h17 e1
    obtain ⟨r2, ⟨n2, q2⟩, w2⟩ := lq_yardB (f := nt_I M (pl 18)) hB1 ht (by rw [s0, ao 0 1 c01 (by decide)]; exact h01) (fun j => by rw [s8, ao 8 j (c8 j) (by decide)]; exact h8 j) e2
    have er := lb_ya_det _ _ _ _ _ _ q1 q2
    subst er
    have r7 : nt_R M1 (pl 16) 7 = some (pl' 31) := by
      have := ly_ref (g := 16) (j := 7) (k := 31) hB1 (List.mem_of_getElem? (i := 6) rfl)
      rw [s16] at this
      exact this
    have im : ∀ k, k < 4 → ∀ a, nt_R M2 (pl' 65) k = some a → ((nt_I M2 a 2).toInt = (nt_I M2 (pl' 14) (212 * k + 4)).toInt ∧ 0 ≤ (nt_I M2 (pl' 14) (212 * k + 4)).toInt ∧ (nt_I M2 (pl' 14) (212 * k + 4)).toInt ≤ 200) ∧ ((nt_I M2 a 1).toInt = 1 ↔ 0 < (nt_I M2 (pl' 14) (212 * k)).toInt) := by
      intro k hk a ha
      obtain ⟨ha1, i1⟩ := lq_img hS1 f2 hk ha
      rw [s65] at ha1
      obtain ⟨ha0, i0⟩ := lq_img hS f1 hk ha1
      have q := hD.2.2 k hk a ha0
      rw [i1 2, i1 1, i0 2, i0 1, bf 14 _ (Or.inr rfl), bf 14 _ (Or.inr rfl), s14, af 14 _ (Or.inr (Or.inr rfl)), af 14 _ (Or.inr (Or.inr rfl))]
      exact q
    rcases w1 with ⟨c, ec, _, ey, e7⟩ | ⟨u, eu, ey, e7, t1, t2⟩ <;> rcases w2 with ⟨c', ec', ey', e4⟩ | ⟨u', eu', ey', e40, e44⟩
    · rw [ec] at ec'
      cases ec'
      rw [e7] at r7
      have e31 : pl' 31 = pl 31 := (Option.some.inj r7).symm
      refine ⟨by rw [ey, ey'], ?_, ?_, im⟩
      · rw [bf 31 _ (Or.inl rfl), e31, af 31 _ (Or.inl rfl), e4, s4, af 4 _ (Or.inr (Or.inl rfl))]
        exact hD.1
      · rw [bf 31 _ (Or.inl rfl), e31, af 31 _ (Or.inl rfl), e4, s4, af 4 _ (Or.inr (Or.inl rfl))]
        exact hD.2.1
    · rw [ec] at eu'
      cases eu'
    · rw [eu] at ec'
      cases ec'
    · rw [eu] at eu'
      cases eu'
      rw [e7] at r7
      have e31 : pl' 31 = pl 48 := (Option.some.inj r7).symm
      refine ⟨by rw [ey, ey'], ?_, ?_, im⟩
      · rw [bf 31 _ (Or.inl rfl), e31, t2, e44]
        omega
      · rw [bf 31 _ (Or.inl rfl), e31, t1]
        exact ⟨fun _ => e40, fun _ => rfl⟩
  rw [hS.1.2.1] at e1
  rw [hS1.1.2.2.1] at e2
  exact ⟨y1, M1, y2, M2, e1, e2, ⟨pl', v, hB2, ly_S_fr f2 hS1, hx, hE2, key.2⟩, key.1, ly_50 hB1 hS1.1.2.2.1⟩
theorem ly_c_rule {X : nt_X} {M : nt_M} (hRR : sx_KOK X (sx_tbs, sx_gps) kk_w_rread2) (hI : ly_Inv M) : ly_P X 105 133 [] M (fun y1 y2 => y1 = y2) := by
  obtain ⟨pl, v, hB, hS, hx, hE, hD⟩ := hI
  obtain ⟨y1, M1, v', e1, hB1, hS1, hv, hR⟩ := ly_ruleC (X := X) (d := 95) hRR rfl (by decide) (by decide +kernel) hB hS
  obtain ⟨y2, M2, e2, hB2, f2⟩ := ly_g0W (ko_w_rule X) rfl (by decide +kernel) (by decide +kernel) (d := 99) (by decide) hB1
  have hpn : ∀ g, g < 66 → pl g < nt_n M := fun g hg => by have := hS.1.1 g hg; have := hS.1.2.2.2; omega
  have key := lq_rule2 hB hB1 hE hpn hR e2
  have hS1' : ly_S pl (fun k => v' (3 + k)) (fun k => v' (7 + k)) (v' 2) M1 := ly_S_cg (fun k hk => hv (3 + k) (by omega) (by omega)) (fun k hk => hv (7 + k) (by omega) (by omega)) rfl hS1
  have hD1 : lq_D pl M1 := by
    obtain ⟨t, n, ht, hn, h17, _⟩ := hE
    exact lq_ruleD hB hS ht h17 hR hD
  have hD2 : lq_D pl M2 := by
    obtain ⟨y, M', e, h⟩ := lwd_rule (by decide) hB1 (lq_bt hB1).1 (lq_bt hB1).2 e2
    obtain ⟨_, eM⟩ := lq_out e
    rw [eM]
    exact lq_DK h hS1' (eM ▸ f2) hD1
  rw [hS.1.2.1] at e1
  rw [hS.1.2.2.1] at e2
  refine ⟨y1, M1, y2, M2, e1, e2, ⟨pl, v', hB2, ly_S_fr f2 (ly_S_cg (fun k hk => hv (3 + k) (by omega) (by omega)) (fun k hk => hv (7 + k) (by omega) (by omega)) rfl hS1), ?_, key.2, hD2⟩, key.1, ly_50 hB1 hS.1.2.2.1⟩
  rw [hv 0 (by omega) (by omega), hv 1 (by omega) (by omega)]
  exact hx
theorem ly_c_seed {X : nt_X} {M : nt_M} (x : Int32) (hI : ly_Inv M) : ly_P X 124 230 [.int x] M (fun y1 y2 => y1 = y2) := by
  obtain ⟨pl, v, hB, hS, hx, hE, hD⟩ := hI
  obtain ⟨y1, M1, v1, e1, hB1, f1, o1, q1⟩ := ly_seedC (X := X) (d := 99) x hB
  obtain ⟨y2, M2, v2, e2, hB2, f2, o2, q2⟩ := ly_seedR (X := X) (d := 99) x hB1
  have hD1 : lq_D pl M1 := by
    obtain ⟨y, M', e, h⟩ := lwd_n_seed (by decide) hB (lq_bt hB).1 (lq_bt hB).2 e1
    obtain ⟨_, eM⟩ := lq_out e
    rw [eM]
    rcases h with ⟨_, h⟩ | h <;> exact lq_DK h hS (eM ▸ f1.1) hD
  have hD2 : lq_D pl M2 := by
    obtain ⟨y, M', e, h⟩ := lwd_seed (by decide) hB1 (lq_bt hB1).1 (lq_bt hB1).2 e2
    obtain ⟨_, eM⟩ := lq_out e
    rw [eM]
    rcases h with ⟨_, h⟩ | h <;> exact lq_DK h (ly_S_fr f1.1 hS) (eM ▸ f2.1) hD1
  rw [hS.1.2.1] at e1
  rw [hS.1.2.2.1] at e2
  have a0 := o1 0 (by omega) (by omega)
  have a1 := o2 1 (by omega) (by omega)
  have ee : ∀ s, s < 11 → s ≠ 0 → s ≠ 1 → v2 s = v s := fun s hs h0 h1 => (o2 s hs h0).trans (o1 s hs h1)
  refine ⟨y1, M1, y2, M2, e1, e2, ⟨pl, v2, hB2, ly_S_fr f2.1 (ly_S_fr f1.1 (ly_S_cg (fun k hk => ee (3 + k) (by omega) (by omega) (by omega)) (fun k hk => ee (7 + k) (by omega) (by omega) (by omega)) (ee 2 (by omega) (by omega) (by omega)) hS)), ?_, lq_keep f2.2 (lq_keep f1.2 hE), hD2⟩, Int32.toInt_inj.mp ?_, ly_50 hB1 hS.1.2.2.1⟩
  · rcases q1 with ⟨c1, _, c3⟩ | ⟨c1, _, c3⟩ <;> rcases q2 with ⟨d1, _, d3⟩ | ⟨d1, _, d3⟩ <;> omega
  · rcases q1 with ⟨c1, c2, _⟩ | ⟨c1, c2, _⟩ <;> rcases q2 with ⟨d1, d2, _⟩ | ⟨d1, d2, _⟩ <;> omega
theorem ly_o1 {X : nt_X} {K : sx_K} {pl : Nat → Nat} {v : Nat → Int} {M : nt_M} {d g dl rv : Nat} {lo hi : Int} {mo : List (Nat × Int × Int)} {rm : List (Nat × Nat)} (a : Int32) (h1 : lo ≤ a.toInt) (h2 : a.toInt ≤ hi) (hK : sx_KOK X (sx_tbs, sx_gps) K) (hKe : K = (g, dl, ly_D ++ [], (mo, rm), [(2, rv, (0, [])), (0, 0, (0, [(11, 1)]))], (ly_C ++ [], ly_R ++ [], (ly_b ++ [(11, lo, hi)], []), 12), [(some (0, 0, (0, [(12, 1)])), (ly_C, ly_R, ([(12, -2147483648, 2147483647)], []), 12 + 1))])) (hmo : mo.all (lq_b 66) = true) (hrm : rm.all (fun q => Nat.blt q.1 66 && (!Nat.beq q.1 23 && !Nat.beq q.1 65)) = true) (hd : dl ≤ d) (hB : ly_B pl v M) : ∃ (x : Int32) (M' : nt_M), nt_ev X d g [.ref (pl rv), .int a] M (some (.int x), M') ∧ ly_B pl v M' ∧ ly_fs pl M M' := by
  obtain ⟨r, hr, h11⟩ : ∃ r : Nat → Int, (∀ s, s < 11 → r s = v s) ∧ r 11 = a.toInt := ⟨fun s => if s = 11 then a.toInt else v s, fun s hs => by dsimp only; rw [if_neg (by omega)], rfl⟩
  exact ly_gen (r := r) hK hKe (by decide) hmo hrm hd hB hr ⟨rfl, ⟨a, rfl, (ly_e1 h11).symm⟩, trivial⟩ (fun q hq => by cases hq) (ly_oba (ly_obr hr (ly_ob hB)) (ly_ob1 (by omega))) ly_oc0
theorem lq_imgD {pl : Nat → Nat} {mk xi : Nat → Int} {rc : Int} {M M1 M2 : nt_M} {k a : Nat} (hS1 : ly_S pl mk xi rc M1) (f2 : ly_fr 66 pl M1 M2) (r65 : nt_R M1 (pl 65) k = some a) (hJ : lq_J pl k M M1) (c1 : (nt_I M2 (pl 31) 1).toInt = (nt_I M (pl 31) 1).toInt) (c2 : (nt_I M2 (pl 31) 2).toInt = (nt_I M (pl 31) 2).toInt) (c3 : (nt_I M2 (pl 4) 0).toInt = (nt_I M (pl 4) 0).toInt) (c4 : (nt_I M2 (pl 4) 4).toInt = (nt_I M (pl 4) 4).toInt) (i1 : (nt_I M1 a 1).toInt = (nt_I M (pl 31) 1).toInt) (i2 : (nt_I M1 a 2).toInt = (nt_I M (pl 31) 2).toInt) (r1 : (nt_I M2 (pl 14) (212 * k)).toInt = (nt_I M (pl 4) 0).toInt) (r2 : (nt_I M2 (pl 14) (212 * k + 4)).toInt = (nt_I M (pl 4) 4).toInt) (ro : ∀ k', k' < 4 → k' ≠ k → (nt_I M2 (pl 14) (212 * k')).toInt = (nt_I M (pl 14) (212 * k')).toInt ∧ (nt_I M2 (pl 14) (212 * k' + 4)).toInt = (nt_I M (pl 14) (212 * k' + 4)).toInt) (hD : lq_D pl M) : lq_D pl M2 := by
  obtain ⟨⟨d1, d2, d3⟩, d4, d5⟩ := hD
  refine ⟨⟨by omega, by omega, by omega⟩, by rw [c1, c3]; exact d4, fun k' hk' a' ha' => ?_⟩
  obtain ⟨ha1, j1⟩ := lq_img hS1 f2 hk' ha'
  by_cases e : k' = k
  · subst e
    rw [r65] at ha1
    cases ha1
    rw [j1 2, j1 1, i1, i2, r1, r2]
    exact ⟨⟨d1, d2, d3⟩, d4⟩
  · rw [hJ.1 k' hk' e] at ha1
    have j0 := hJ.2 k' a' hk' e ha1
    rw [j1 2, j1 1, j0 2, j0 1, (ro k' hk' e).1, (ro k' hk' e).2]
    exact d5 k' hk' a' ha1
theorem lq_imb {a : Nat} {x : Int} {M : nt_M} (h : ly_im a x M) : (0 : Int) ≤ (nt_I M (a + 0) 1).toInt ∧ (nt_I M (a + 0) 1).toInt ≤ 1 := (h.1 0 _ (show ly_ED[0]? = some (6, 0, 0, 15) from rfl)).2.2.2.2 1
theorem ly_twoE {X : nt_X} {gc gr : Nat} {as : List Value} {M : nt_M} (hI : ly_Inv M) (h1 : ∀ pl v, ly_B pl v M → ly_S pl (fun k => v (3 + k)) (fun k => v (7 + k)) (v 2) M → ∃ (x : Int32) (M' : nt_M), nt_ev X 99 gc (.ref (pl 16) :: as) M (some (.int x), M') ∧ ly_B pl v M' ∧ ly_fs pl M M') (h2 : ∀ pl v M, ly_B pl v M → ∃ (x : Int32) (M' : nt_M), nt_ev X 99 gr (.ref (pl 0) :: as) M (some (.int x), M') ∧ ly_B pl v M' ∧ ly_fs pl M M') (g1 : ∀ pl (v : Nat → Int) y M', ly_B pl v M → nt_ev X 99 gc (.ref (pl 16) :: as) M (some (.int y), M') → y.toInt = -1 ∧ lq_s12 pl M M') (g2 : ∀ pl (v : Nat → Int) M y M', ly_B pl v M → nt_ev X 99 gr (.ref (pl 0) :: as) M (some (.int y), M') → y.toInt = -1 ∧ lq_s12 pl M M') : ly_P X gc gr as M (fun y1 y2 => y1 = y2) := by
  obtain ⟨pl, v, hB, hS, hx, hE, hD⟩ := hI
  obtain ⟨y1, M1, e1, hB1, f1⟩ := h1 pl v hB hS
  obtain ⟨y2, M2, e2, hB2, f2⟩ := h2 pl v M1 hB1
  have p16 := hS.1.2.1
  have p0 := hS.1.2.2.1
  obtain ⟨w1, s1⟩ := g1 pl v _ _ hB e1
  obtain ⟨w2, s2⟩ := g2 pl v _ _ _ hB1 e2
  have hD1 : lq_D pl M1 := lq_DK s1 hS f1.1 hD
  have hD2 : lq_D pl M2 := lq_DK s2 (ly_S_fr f1.1 hS) f2.1 hD1
  rw [p16] at e1
  rw [p0] at e2
  exact ⟨y1, M1, y2, M2, e1, e2, ⟨pl, v, hB2, ly_S_fr f2.1 (ly_S_fr f1.1 hS), hx, lq_keep f2.2 (lq_keep f1.2 hE), hD2⟩, Int32.toInt_inj.mp (w1.trans w2.symm), ly_50 hB1 p0⟩
theorem lq_img2_0 {X : nt_X} {pl : Nat → Nat} {v mk xi mk1 xi1 : Nat → Int} {rc : Int} {M M1 M2 : nt_M} {y1 y2 : Int32} (hS : ly_S pl mk xi (v 2) M) (hD : lq_D pl M) (i1 : lq_I X pl v 99 0 y1 M M1) (hB1 : ly_B pl v M1) (hS1 : ly_S pl mk1 xi1 rc M1) (f2 : ly_fr 66 pl M1 M2) (e2 : nt_ev X 99 234 [.ref (pl 0), .int (nI 0)] M1 (some (.int y2), M2)) : y1 = y2 ∧ lq_D pl M2 := by
  obtain ⟨N, a, x, hN, r65, a66, im, eN, same, r65', hJ⟩ := i1
  obtain ⟨y, M', e, hy, c0, c1, c2, c3, c4, c5, c6, c7, c8, c9, c10, c11, ca1, ca2⟩ := lwd_n_image0 (by decide) hN hS.1.1 r65 a66 im (lq_bt hN).1 (lq_bt hN).2 (lq_imb im) eN
  obtain ⟨ey, eM⟩ := lq_out e
  subst ey
  subst eM
  have s31 := fun j => same 31 j (by omega)
  have s4 := fun j => same 4 j (by omega)
  have s14 := fun j => same 14 j (by omega)
  simp only [s31, s4, s14] at hy c0 c1 c2 c3 c4 c5 c6 c7 c8 c9 c10 c11 ca1 ca2
  obtain ⟨y', M'', e, hy', k0, k1, k2, k3, k4, k5, k6, k7, k8, k9, k10, k11⟩ := lwd_image0 (by decide) hB1 (lq_bt hB1).1 (lq_bt hB1).2 e2
  obtain ⟨ey, eM⟩ := lq_out e
  subst ey
  subst eM
  have d1 := hD.1.1
  refine ⟨Int32.toInt_inj.mp (by omega), lq_imgD hS1 f2 r65' hJ (k0.trans c0) (k1.trans c1) (k2.trans c2) (k3.trans c3) ca1 ca2 (k4.trans c2) (k8.trans c3) (fun k' hk' hne => ?_) hD⟩
  rcases (by omega : k' = 0 ∨ k' = 1 ∨ k' = 2 ∨ k' = 3) with rfl | rfl | rfl | rfl
  · exact absurd rfl hne
  · exact ⟨k5.trans c5, k9.trans c9⟩
  · exact ⟨k6.trans c6, k10.trans c10⟩
  · exact ⟨k7.trans c7, k11.trans c11⟩
theorem lq_back2_0 {X : nt_X} {pl : Nat → Nat} {v v1 xi : Nat → Int} {M M1 M2 : nt_M} {y1 y2 : Int32} {mk : Nat → Int} (hB : ly_B pl v M) (hS : ly_S pl mk xi (v 2) M) (hm : mk 0 = 1) (hD : lq_D pl M) (hB1 : ly_B pl v1 M1) (hv : v1 3 = 1) (f1 : ly_fr 66 pl M M1) (f2 : ly_fr 66 pl M1 M2) (e1 : nt_ev X 99 128 [.ref (pl 16), .int (nI 0)] M (some (.int y1), M1)) (e2 : nt_ev X 99 235 [.ref (pl 0), .int (nI 0)] M1 (some (.int y2), M2)) : y1 = y2 ∧ lq_D pl M2 := by
  have hS0 := hS
  obtain ⟨⟨p1, _⟩, _, T, p7, _⟩ := hS
  rcases p7 0 (by decide) with ⟨_, c⟩ | ⟨a, r65, _, a66, _, _, im⟩
  · omega
  obtain ⟨y, M', e, hy, c0, c1, c2, c3, c4, c5, c6, c7, c8, c9, c10, c11, ca1, ca2⟩ := lwd_n_back0 (by decide) hB p1 r65 a66 im (lq_bt hB).1 (lq_bt hB).2 (lq_imb im) e1
  obtain ⟨ey, eM⟩ := lq_out e
  subst ey
  subst eM
  obtain ⟨y', M'', e, hy', k0, k1, k2, k3, k4, k5, k6, k7, k8, k9, k10, k11⟩ := lwd_back0 (by decide) hB1 (lq_bt hB1).1 (lq_bt hB1).2 hv e2
  obtain ⟨ey, eM⟩ := lq_out e
  subst ey
  subst eM
  obtain ⟨⟨d1, d2, d3⟩, d4⟩ := hD.2.2 0 (by decide) a r65
  have d1 : (nt_I M (a + 0) 2).toInt = (nt_I M (pl 14) 4).toInt := d1
  have d2 : 0 ≤ (nt_I M (pl 14) 4).toInt := d2
  have d3 : (nt_I M (pl 14) 4).toInt ≤ 200 := d3
  have d4 : (nt_I M (a + 0) 1).toInt = 1 ↔ 0 < (nt_I M (pl 14) 0).toInt := d4
  refine ⟨Int32.toInt_inj.mp (by omega), lq_Dmk hS0 (ly_fr_tr f1 f2) (lq_k8 ⟨k4.trans c4, k8.trans c8⟩ ⟨k5.trans c5, k9.trans c9⟩ ⟨k6.trans c6, k10.trans c10⟩ ⟨k7.trans c7, k11.trans c11⟩) ⟨by omega, by omega, by omega⟩ ?_ hD⟩
  rw [k0, c0, k2, c4]
  exact d4
theorem lq_back2_0N {X : nt_X} {pl : Nat → Nat} {v xi : Nat → Int} {rc : Int} {M M1 M2 : nt_M} {y1 y2 : Int32} {mk : Nat → Int} (hB : ly_B pl v M) (hS : ly_S pl mk xi rc M) (hn : nt_R M (pl 65) 0 = none) (hD : lq_D pl M) (hB1 : ly_B pl v M1) (hv : v 3 = 0) (f1 : ly_fr 66 pl M M1) (f2 : ly_fr 66 pl M1 M2) (e1 : nt_ev X 99 128 [.ref (pl 16), .int (nI 0)] M (some (.int y1), M1)) (e2 : nt_ev X 99 235 [.ref (pl 0), .int (nI 0)] M1 (some (.int y2), M2)) : y1 = y2 ∧ lq_D pl M2 := by
  obtain ⟨y, M', e, hy, s1⟩ := lwd_n_back0N (by decide) hB hn (lq_bt hB).1 (lq_bt hB).2 e1
  obtain ⟨ey, eM⟩ := lq_out e
  subst ey
  subst eM
  obtain ⟨y', M'', e, hy', s2⟩ := lwd_back0N (by decide) hB1 (lq_bt hB1).1 (lq_bt hB1).2 hv e2
  obtain ⟨ey, eM⟩ := lq_out e
  subst ey
  subst eM
  exact ⟨Int32.toInt_inj.mp (hy.trans hy'.symm), lq_DK s2 (ly_S_fr f1 hS) f2 (lq_DK s1 hS f1 hD)⟩
theorem lq_img2_1 {X : nt_X} {pl : Nat → Nat} {v mk xi mk1 xi1 : Nat → Int} {rc : Int} {M M1 M2 : nt_M} {y1 y2 : Int32} (hS : ly_S pl mk xi (v 2) M) (hD : lq_D pl M) (i1 : lq_I X pl v 99 1 y1 M M1) (hB1 : ly_B pl v M1) (hS1 : ly_S pl mk1 xi1 rc M1) (f2 : ly_fr 66 pl M1 M2) (e2 : nt_ev X 99 234 [.ref (pl 0), .int (nI 1)] M1 (some (.int y2), M2)) : y1 = y2 ∧ lq_D pl M2 := by
  obtain ⟨N, a, x, hN, r65, a66, im, eN, same, r65', hJ⟩ := i1
  obtain ⟨y, M', e, hy, c0, c1, c2, c3, c4, c5, c6, c7, c8, c9, c10, c11, ca1, ca2⟩ := lwd_n_image1 (by decide) hN hS.1.1 r65 a66 im (lq_bt hN).1 (lq_bt hN).2 (lq_imb im) eN
  obtain ⟨ey, eM⟩ := lq_out e
  subst ey
  subst eM
  have s31 := fun j => same 31 j (by omega)
  have s4 := fun j => same 4 j (by omega)
  have s14 := fun j => same 14 j (by omega)
  simp only [s31, s4, s14] at hy c0 c1 c2 c3 c4 c5 c6 c7 c8 c9 c10 c11 ca1 ca2
  obtain ⟨y', M'', e, hy', k0, k1, k2, k3, k4, k5, k6, k7, k8, k9, k10, k11⟩ := lwd_image1 (by decide) hB1 (lq_bt hB1).1 (lq_bt hB1).2 e2
  obtain ⟨ey, eM⟩ := lq_out e
  subst ey
  subst eM
  have d1 := hD.1.1
  refine ⟨Int32.toInt_inj.mp (by omega), lq_imgD hS1 f2 r65' hJ (k0.trans c0) (k1.trans c1) (k2.trans c2) (k3.trans c3) ca1 ca2 (k5.trans c2) (k9.trans c3) (fun k' hk' hne => ?_) hD⟩
  rcases (by omega : k' = 0 ∨ k' = 1 ∨ k' = 2 ∨ k' = 3) with rfl | rfl | rfl | rfl
  · exact ⟨k4.trans c4, k8.trans c8⟩
  · exact absurd rfl hne
  · exact ⟨k6.trans c6, k10.trans c10⟩
  · exact ⟨k7.trans c7, k11.trans c11⟩
theorem lq_back2_1 {X : nt_X} {pl : Nat → Nat} {v v1 xi : Nat → Int} {M M1 M2 : nt_M} {y1 y2 : Int32} {mk : Nat → Int} (hB : ly_B pl v M) (hS : ly_S pl mk xi (v 2) M) (hm : mk 1 = 1) (hD : lq_D pl M) (hB1 : ly_B pl v1 M1) (hv : v1 4 = 1) (f1 : ly_fr 66 pl M M1) (f2 : ly_fr 66 pl M1 M2) (e1 : nt_ev X 99 128 [.ref (pl 16), .int (nI 1)] M (some (.int y1), M1)) (e2 : nt_ev X 99 235 [.ref (pl 0), .int (nI 1)] M1 (some (.int y2), M2)) : y1 = y2 ∧ lq_D pl M2 := by
  have hS0 := hS
  obtain ⟨⟨p1, _⟩, _, T, p7, _⟩ := hS
  rcases p7 1 (by decide) with ⟨_, c⟩ | ⟨a, r65, _, a66, _, _, im⟩
  · omega
  obtain ⟨y, M', e, hy, c0, c1, c2, c3, c4, c5, c6, c7, c8, c9, c10, c11, ca1, ca2⟩ := lwd_n_back1 (by decide) hB p1 r65 a66 im (lq_bt hB).1 (lq_bt hB).2 (lq_imb im) e1
  obtain ⟨ey, eM⟩ := lq_out e
  subst ey
  subst eM
  obtain ⟨y', M'', e, hy', k0, k1, k2, k3, k4, k5, k6, k7, k8, k9, k10, k11⟩ := lwd_back1 (by decide) hB1 (lq_bt hB1).1 (lq_bt hB1).2 hv e2
  obtain ⟨ey, eM⟩ := lq_out e
  subst ey
  subst eM
  obtain ⟨⟨d1, d2, d3⟩, d4⟩ := hD.2.2 1 (by decide) a r65
  have d1 : (nt_I M (a + 0) 2).toInt = (nt_I M (pl 14) 216).toInt := d1
  have d2 : 0 ≤ (nt_I M (pl 14) 216).toInt := d2
  have d3 : (nt_I M (pl 14) 216).toInt ≤ 200 := d3
  have d4 : (nt_I M (a + 0) 1).toInt = 1 ↔ 0 < (nt_I M (pl 14) 212).toInt := d4
  refine ⟨Int32.toInt_inj.mp (by omega), lq_Dmk hS0 (ly_fr_tr f1 f2) (lq_k8 ⟨k4.trans c4, k8.trans c8⟩ ⟨k5.trans c5, k9.trans c9⟩ ⟨k6.trans c6, k10.trans c10⟩ ⟨k7.trans c7, k11.trans c11⟩) ⟨by omega, by omega, by omega⟩ ?_ hD⟩
  rw [k0, c0, k2, c5]
  exact d4
theorem lq_back2_1N {X : nt_X} {pl : Nat → Nat} {v xi : Nat → Int} {rc : Int} {M M1 M2 : nt_M} {y1 y2 : Int32} {mk : Nat → Int} (hB : ly_B pl v M) (hS : ly_S pl mk xi rc M) (hn : nt_R M (pl 65) 1 = none) (hD : lq_D pl M) (hB1 : ly_B pl v M1) (hv : v 4 = 0) (f1 : ly_fr 66 pl M M1) (f2 : ly_fr 66 pl M1 M2) (e1 : nt_ev X 99 128 [.ref (pl 16), .int (nI 1)] M (some (.int y1), M1)) (e2 : nt_ev X 99 235 [.ref (pl 0), .int (nI 1)] M1 (some (.int y2), M2)) : y1 = y2 ∧ lq_D pl M2 := by
  obtain ⟨y, M', e, hy, s1⟩ := lwd_n_back1N (by decide) hB hn (lq_bt hB).1 (lq_bt hB).2 e1
  obtain ⟨ey, eM⟩ := lq_out e
  subst ey
  subst eM
  obtain ⟨y', M'', e, hy', s2⟩ := lwd_back1N (by decide) hB1 (lq_bt hB1).1 (lq_bt hB1).2 hv e2
  obtain ⟨ey, eM⟩ := lq_out e
  subst ey
  subst eM
  exact ⟨Int32.toInt_inj.mp (hy.trans hy'.symm), lq_DK s2 (ly_S_fr f1 hS) f2 (lq_DK s1 hS f1 hD)⟩
theorem lq_img2_2 {X : nt_X} {pl : Nat → Nat} {v mk xi mk1 xi1 : Nat → Int} {rc : Int} {M M1 M2 : nt_M} {y1 y2 : Int32} (hS : ly_S pl mk xi (v 2) M) (hD : lq_D pl M) (i1 : lq_I X pl v 99 2 y1 M M1) (hB1 : ly_B pl v M1) (hS1 : ly_S pl mk1 xi1 rc M1) (f2 : ly_fr 66 pl M1 M2) (e2 : nt_ev X 99 234 [.ref (pl 0), .int (nI 2)] M1 (some (.int y2), M2)) : y1 = y2 ∧ lq_D pl M2 := by
  obtain ⟨N, a, x, hN, r65, a66, im, eN, same, r65', hJ⟩ := i1
  obtain ⟨y, M', e, hy, c0, c1, c2, c3, c4, c5, c6, c7, c8, c9, c10, c11, ca1, ca2⟩ := lwd_n_image2 (by decide) hN hS.1.1 r65 a66 im (lq_bt hN).1 (lq_bt hN).2 (lq_imb im) eN
  obtain ⟨ey, eM⟩ := lq_out e
  subst ey
  subst eM
  have s31 := fun j => same 31 j (by omega)
  have s4 := fun j => same 4 j (by omega)
  have s14 := fun j => same 14 j (by omega)
  simp only [s31, s4, s14] at hy c0 c1 c2 c3 c4 c5 c6 c7 c8 c9 c10 c11 ca1 ca2
  obtain ⟨y', M'', e, hy', k0, k1, k2, k3, k4, k5, k6, k7, k8, k9, k10, k11⟩ := lwd_image2 (by decide) hB1 (lq_bt hB1).1 (lq_bt hB1).2 e2
  obtain ⟨ey, eM⟩ := lq_out e
  subst ey
  subst eM
  have d1 := hD.1.1
  refine ⟨Int32.toInt_inj.mp (by omega), lq_imgD hS1 f2 r65' hJ (k0.trans c0) (k1.trans c1) (k2.trans c2) (k3.trans c3) ca1 ca2 (k6.trans c2) (k10.trans c3) (fun k' hk' hne => ?_) hD⟩
  rcases (by omega : k' = 0 ∨ k' = 1 ∨ k' = 2 ∨ k' = 3) with rfl | rfl | rfl | rfl
  · exact ⟨k4.trans c4, k8.trans c8⟩
  · exact ⟨k5.trans c5, k9.trans c9⟩
  · exact absurd rfl hne
  · exact ⟨k7.trans c7, k11.trans c11⟩
theorem lq_back2_2 {X : nt_X} {pl : Nat → Nat} {v v1 xi : Nat → Int} {M M1 M2 : nt_M} {y1 y2 : Int32} {mk : Nat → Int} (hB : ly_B pl v M) (hS : ly_S pl mk xi (v 2) M) (hm : mk 2 = 1) (hD : lq_D pl M) (hB1 : ly_B pl v1 M1) (hv : v1 5 = 1) (f1 : ly_fr 66 pl M M1) (f2 : ly_fr 66 pl M1 M2) (e1 : nt_ev X 99 128 [.ref (pl 16), .int (nI 2)] M (some (.int y1), M1)) (e2 : nt_ev X 99 235 [.ref (pl 0), .int (nI 2)] M1 (some (.int y2), M2)) : y1 = y2 ∧ lq_D pl M2 := by
  have hS0 := hS
  obtain ⟨⟨p1, _⟩, _, T, p7, _⟩ := hS
  rcases p7 2 (by decide) with ⟨_, c⟩ | ⟨a, r65, _, a66, _, _, im⟩
  · omega
  obtain ⟨y, M', e, hy, c0, c1, c2, c3, c4, c5, c6, c7, c8, c9, c10, c11, ca1, ca2⟩ := lwd_n_back2 (by decide) hB p1 r65 a66 im (lq_bt hB).1 (lq_bt hB).2 (lq_imb im) e1
  obtain ⟨ey, eM⟩ := lq_out e
  subst ey
  subst eM
  obtain ⟨y', M'', e, hy', k0, k1, k2, k3, k4, k5, k6, k7, k8, k9, k10, k11⟩ := lwd_back2 (by decide) hB1 (lq_bt hB1).1 (lq_bt hB1).2 hv e2
  obtain ⟨ey, eM⟩ := lq_out e
  subst ey
  subst eM
  obtain ⟨⟨d1, d2, d3⟩, d4⟩ := hD.2.2 2 (by decide) a r65
  have d1 : (nt_I M (a + 0) 2).toInt = (nt_I M (pl 14) 428).toInt := d1
  have d2 : 0 ≤ (nt_I M (pl 14) 428).toInt := d2
  have d3 : (nt_I M (pl 14) 428).toInt ≤ 200 := d3
  have d4 : (nt_I M (a + 0) 1).toInt = 1 ↔ 0 < (nt_I M (pl 14) 424).toInt := d4
  refine ⟨Int32.toInt_inj.mp (by omega), lq_Dmk hS0 (ly_fr_tr f1 f2) (lq_k8 ⟨k4.trans c4, k8.trans c8⟩ ⟨k5.trans c5, k9.trans c9⟩ ⟨k6.trans c6, k10.trans c10⟩ ⟨k7.trans c7, k11.trans c11⟩) ⟨by omega, by omega, by omega⟩ ?_ hD⟩
  rw [k0, c0, k2, c6]
  exact d4
theorem lq_back2_2N {X : nt_X} {pl : Nat → Nat} {v xi : Nat → Int} {rc : Int} {M M1 M2 : nt_M} {y1 y2 : Int32} {mk : Nat → Int} (hB : ly_B pl v M) (hS : ly_S pl mk xi rc M) (hn : nt_R M (pl 65) 2 = none) (hD : lq_D pl M) (hB1 : ly_B pl v M1) (hv : v 5 = 0) (f1 : ly_fr 66 pl M M1) (f2 : ly_fr 66 pl M1 M2) (e1 : nt_ev X 99 128 [.ref (pl 16), .int (nI 2)] M (some (.int y1), M1)) (e2 : nt_ev X 99 235 [.ref (pl 0), .int (nI 2)] M1 (some (.int y2), M2)) : y1 = y2 ∧ lq_D pl M2 := by
  obtain ⟨y, M', e, hy, s1⟩ := lwd_n_back2N (by decide) hB hn (lq_bt hB).1 (lq_bt hB).2 e1
  obtain ⟨ey, eM⟩ := lq_out e
  subst ey
  subst eM
  obtain ⟨y', M'', e, hy', s2⟩ := lwd_back2N (by decide) hB1 (lq_bt hB1).1 (lq_bt hB1).2 hv e2
  obtain ⟨ey, eM⟩ := lq_out e
  subst ey
  subst eM
  exact ⟨Int32.toInt_inj.mp (hy.trans hy'.symm), lq_DK s2 (ly_S_fr f1 hS) f2 (lq_DK s1 hS f1 hD)⟩
theorem lq_img2_3 {X : nt_X} {pl : Nat → Nat} {v mk xi mk1 xi1 : Nat → Int} {rc : Int} {M M1 M2 : nt_M} {y1 y2 : Int32} (hS : ly_S pl mk xi (v 2) M) (hD : lq_D pl M) (i1 : lq_I X pl v 99 3 y1 M M1) (hB1 : ly_B pl v M1) (hS1 : ly_S pl mk1 xi1 rc M1) (f2 : ly_fr 66 pl M1 M2) (e2 : nt_ev X 99 234 [.ref (pl 0), .int (nI 3)] M1 (some (.int y2), M2)) : y1 = y2 ∧ lq_D pl M2 := by
  obtain ⟨N, a, x, hN, r65, a66, im, eN, same, r65', hJ⟩ := i1
  obtain ⟨y, M', e, hy, c0, c1, c2, c3, c4, c5, c6, c7, c8, c9, c10, c11, ca1, ca2⟩ := lwd_n_image3 (by decide) hN hS.1.1 r65 a66 im (lq_bt hN).1 (lq_bt hN).2 (lq_imb im) eN
  obtain ⟨ey, eM⟩ := lq_out e
  subst ey
  subst eM
  have s31 := fun j => same 31 j (by omega)
  have s4 := fun j => same 4 j (by omega)
  have s14 := fun j => same 14 j (by omega)
  simp only [s31, s4, s14] at hy c0 c1 c2 c3 c4 c5 c6 c7 c8 c9 c10 c11 ca1 ca2
  obtain ⟨y', M'', e, hy', k0, k1, k2, k3, k4, k5, k6, k7, k8, k9, k10, k11⟩ := lwd_image3 (by decide) hB1 (lq_bt hB1).1 (lq_bt hB1).2 e2
  obtain ⟨ey, eM⟩ := lq_out e
  subst ey
  subst eM
  have d1 := hD.1.1
  refine ⟨Int32.toInt_inj.mp (by omega), lq_imgD hS1 f2 r65' hJ (k0.trans c0) (k1.trans c1) (k2.trans c2) (k3.trans c3) ca1 ca2 (k7.trans c2) (k11.trans c3) (fun k' hk' hne => ?_) hD⟩
  rcases (by omega : k' = 0 ∨ k' = 1 ∨ k' = 2 ∨ k' = 3) with rfl | rfl | rfl | rfl
  · exact ⟨k4.trans c4, k8.trans c8⟩
  · exact ⟨k5.trans c5, k9.trans c9⟩
  · exact ⟨k6.trans c6, k10.trans c10⟩
  · exact absurd rfl hne
theorem lq_back2_3 {X : nt_X} {pl : Nat → Nat} {v v1 xi : Nat → Int} {M M1 M2 : nt_M} {y1 y2 : Int32} {mk : Nat → Int} (hB : ly_B pl v M) (hS : ly_S pl mk xi (v 2) M) (hm : mk 3 = 1) (hD : lq_D pl M) (hB1 : ly_B pl v1 M1) (hv : v1 6 = 1) (f1 : ly_fr 66 pl M M1) (f2 : ly_fr 66 pl M1 M2) (e1 : nt_ev X 99 128 [.ref (pl 16), .int (nI 3)] M (some (.int y1), M1)) (e2 : nt_ev X 99 235 [.ref (pl 0), .int (nI 3)] M1 (some (.int y2), M2)) : y1 = y2 ∧ lq_D pl M2 := by
  have hS0 := hS
  obtain ⟨⟨p1, _⟩, _, T, p7, _⟩ := hS
  rcases p7 3 (by decide) with ⟨_, c⟩ | ⟨a, r65, _, a66, _, _, im⟩
  · omega
  obtain ⟨y, M', e, hy, c0, c1, c2, c3, c4, c5, c6, c7, c8, c9, c10, c11, ca1, ca2⟩ := lwd_n_back3 (by decide) hB p1 r65 a66 im (lq_bt hB).1 (lq_bt hB).2 (lq_imb im) e1
  obtain ⟨ey, eM⟩ := lq_out e
  subst ey
  subst eM
  obtain ⟨y', M'', e, hy', k0, k1, k2, k3, k4, k5, k6, k7, k8, k9, k10, k11⟩ := lwd_back3 (by decide) hB1 (lq_bt hB1).1 (lq_bt hB1).2 hv e2
  obtain ⟨ey, eM⟩ := lq_out e
  subst ey
  subst eM
  obtain ⟨⟨d1, d2, d3⟩, d4⟩ := hD.2.2 3 (by decide) a r65
  have d1 : (nt_I M (a + 0) 2).toInt = (nt_I M (pl 14) 640).toInt := d1
  have d2 : 0 ≤ (nt_I M (pl 14) 640).toInt := d2
  have d3 : (nt_I M (pl 14) 640).toInt ≤ 200 := d3
  have d4 : (nt_I M (a + 0) 1).toInt = 1 ↔ 0 < (nt_I M (pl 14) 636).toInt := d4
  refine ⟨Int32.toInt_inj.mp (by omega), lq_Dmk hS0 (ly_fr_tr f1 f2) (lq_k8 ⟨k4.trans c4, k8.trans c8⟩ ⟨k5.trans c5, k9.trans c9⟩ ⟨k6.trans c6, k10.trans c10⟩ ⟨k7.trans c7, k11.trans c11⟩) ⟨by omega, by omega, by omega⟩ ?_ hD⟩
  rw [k0, c0, k2, c7]
  exact d4
theorem lq_back2_3N {X : nt_X} {pl : Nat → Nat} {v xi : Nat → Int} {rc : Int} {M M1 M2 : nt_M} {y1 y2 : Int32} {mk : Nat → Int} (hB : ly_B pl v M) (hS : ly_S pl mk xi rc M) (hn : nt_R M (pl 65) 3 = none) (hD : lq_D pl M) (hB1 : ly_B pl v M1) (hv : v 6 = 0) (f1 : ly_fr 66 pl M M1) (f2 : ly_fr 66 pl M1 M2) (e1 : nt_ev X 99 128 [.ref (pl 16), .int (nI 3)] M (some (.int y1), M1)) (e2 : nt_ev X 99 235 [.ref (pl 0), .int (nI 3)] M1 (some (.int y2), M2)) : y1 = y2 ∧ lq_D pl M2 := by
  obtain ⟨y, M', e, hy, s1⟩ := lwd_n_back3N (by decide) hB hn (lq_bt hB).1 (lq_bt hB).2 e1
  obtain ⟨ey, eM⟩ := lq_out e
  subst ey
  subst eM
  obtain ⟨y', M'', e, hy', s2⟩ := lwd_back3N (by decide) hB1 (lq_bt hB1).1 (lq_bt hB1).2 hv e2
  obtain ⟨ey, eM⟩ := lq_out e
  subst ey
  subst eM
  exact ⟨Int32.toInt_inj.mp (hy.trans hy'.symm), lq_DK s2 (ly_S_fr f1 hS) f2 (lq_DK s1 hS f1 hD)⟩
theorem ly_c_image {X : nt_X} {M : nt_M} (a0 : Int32) (hI : ly_Inv M) : ly_P X 127 234 [.int a0] M (fun y1 y2 => y1 = y2) := by
  have la := a0.le_toInt
  have lb := a0.toInt_lt
  by_cases c1 : a0.toInt < 0
  · exact ly_twoE hI (fun pl v hB _ => ly_o1 a0 (by omega) (by omega) (ko_w_n_imageL X) rfl (by decide +kernel) (by decide +kernel) (by decide) hB) (fun pl v M hB => ly_o1 a0 (by omega) (by omega) (ko_w_imageL X) rfl (by decide +kernel) (by decide +kernel) (by decide) hB) (fun pl v y M' hB k => by obtain ⟨y0, M0, e, h⟩ := lwd_n_imageL (by decide) hB (lq_bt hB).1 (lq_bt hB).2 ⟨by omega, by omega⟩ k; obtain ⟨ey, eM⟩ := lq_out e; subst ey; subst eM; exact h) (fun pl v M y M' hB k => by obtain ⟨y0, M0, e, h⟩ := lwd_imageL (by decide) hB (lq_bt hB).1 (lq_bt hB).2 ⟨by omega, by omega⟩ k; obtain ⟨ey, eM⟩ := lq_out e; subst ey; subst eM; exact h)
  by_cases c2 : 3 < a0.toInt
  · exact ly_twoE hI (fun pl v hB _ => ly_o1 a0 (by omega) (by omega) (ko_w_n_imageH X) rfl (by decide +kernel) (by decide +kernel) (by decide) hB) (fun pl v M hB => ly_o1 a0 (by omega) (by omega) (ko_w_imageH X) rfl (by decide +kernel) (by decide +kernel) (by decide) hB) (fun pl v y M' hB k => by obtain ⟨y0, M0, e, h⟩ := lwd_n_imageH (by decide) hB (lq_bt hB).1 (lq_bt hB).2 ⟨by omega, by omega⟩ k; obtain ⟨ey, eM⟩ := lq_out e; subst ey; subst eM; exact h) (fun pl v M y M' hB k => by obtain ⟨y0, M0, e, h⟩ := lwd_imageH (by decide) hB (lq_bt hB).1 (lq_bt hB).2 ⟨by omega, by omega⟩ k; obtain ⟨ey, eM⟩ := lq_out e; subst ey; subst eM; exact h)
  obtain ⟨pl, v, hB, hS, hx, hE, hD⟩ := hI
  have p16 := hS.1.2.1
  have p0 := hS.1.2.2.1
  by_cases k0 : a0.toInt = 0
  · have ea : a0 = nI 0 := Int32.toInt_inj.mp (by rw [nI_toInt (by decide)]; exact k0)
    subst ea
    have fin : ∀ (y1 : Int32) (M1 : nt_M), nt_ev X 99 127 [.ref (pl 16), .int (nI 0)] M (some (.int y1), M1) → lq_T pl M M1 → lq_I X pl v 99 0 y1 M M1 → ly_B pl v M1 → ly_S pl (fun i => if i = 0 then 1 else v (3 + i)) (fun i => if i = 0 then v 1 else v (7 + i)) (v 2) M1 → ly_P X 127 234 [.int (nI 0)] M (fun y1 y2 => y1 = y2) := by
      intro y1 M1 e1 q1 i1 hB1 hS1
      obtain ⟨y2, M2, e2, hB2, f2⟩ := ly_imgR0 (X := X) (d := 99) (by decide) hB1
      have key := lq_img2_0 hS hD i1 hB1 hS1 f2.1 e2
      rw [p16] at e1
      rw [p0] at e2
      refine ⟨y1, M1, y2, M2, e1, e2, ⟨pl, _, hB2, ly_S_fr f2.1 (ly_S_cg (fun i hi => ?_) (fun i hi => ?_) rfl hS1), hx, lq_keep f2.2 (lq_keep q1 hE), key.2⟩, key.1, ly_50 hB1 p0⟩
      · rcases (by omega : i = 0 ∨ i = 1 ∨ i = 2 ∨ i = 3) with rfl | rfl | rfl | rfl <;> rfl
      · rcases (by omega : i = 0 ∨ i = 1 ∨ i = 2 ∨ i = 3) with rfl | rfl | rfl | rfl <;> first | rfl | exact hx
    obtain ⟨T, p7⟩ : ∃ T : Nat → Nat, (nt_R M (pl 65) 0 = none ∧ v 3 = 0) ∨ v 3 = 1 := by
      obtain ⟨_, _, T, p7, _⟩ := hS
      rcases p7 0 (by decide) with c | ⟨_, _, c, _⟩
      · exact ⟨T, Or.inl c⟩
      · exact ⟨T, Or.inr c⟩
    rcases p7 with ⟨_, c⟩ | c
    · obtain ⟨y1, M1, e1, q1, i1, hB1, hS1⟩ := ly_imgN (X := X) (d := 96) (k := 0) (ko_w_n_image0 X) rfl (by decide +kernel) (by decide) hB hS c
      exact fin y1 M1 e1 q1 i1 hB1 hS1
    · obtain ⟨y1, M1, e1, q1, i1, hB1, hS1⟩ := ly_imgC (X := X) (d := 99) (k := 0) (ko_w_n_image0 X) rfl (by decide +kernel) (by decide) (by decide) hB hS c
      refine fin y1 M1 e1 q1 i1 hB1 (ly_S_cg (fun i hi => ?_) (fun i hi => rfl) rfl hS1)
      rcases (by omega : i = 0 ∨ i = 1 ∨ i = 2 ∨ i = 3) with rfl | rfl | rfl | rfl <;> first | rfl | exact c.symm
  by_cases k1 : a0.toInt = 1
  · have ea : a0 = nI 1 := Int32.toInt_inj.mp (by rw [nI_toInt (by decide)]; exact k1)
    subst ea
    have fin : ∀ (y1 : Int32) (M1 : nt_M), nt_ev X 99 127 [.ref (pl 16), .int (nI 1)] M (some (.int y1), M1) → lq_T pl M M1 → lq_I X pl v 99 1 y1 M M1 → ly_B pl v M1 → ly_S pl (fun i => if i = 1 then 1 else v (3 + i)) (fun i => if i = 1 then v 1 else v (7 + i)) (v 2) M1 → ly_P X 127 234 [.int (nI 1)] M (fun y1 y2 => y1 = y2) := by
      intro y1 M1 e1 q1 i1 hB1 hS1
      obtain ⟨y2, M2, e2, hB2, f2⟩ := ly_imgR1 (X := X) (d := 99) (by decide) hB1
      have key := lq_img2_1 hS hD i1 hB1 hS1 f2.1 e2
      rw [p16] at e1
      rw [p0] at e2
      refine ⟨y1, M1, y2, M2, e1, e2, ⟨pl, _, hB2, ly_S_fr f2.1 (ly_S_cg (fun i hi => ?_) (fun i hi => ?_) rfl hS1), hx, lq_keep f2.2 (lq_keep q1 hE), key.2⟩, key.1, ly_50 hB1 p0⟩
      · rcases (by omega : i = 0 ∨ i = 1 ∨ i = 2 ∨ i = 3) with rfl | rfl | rfl | rfl <;> rfl
      · rcases (by omega : i = 0 ∨ i = 1 ∨ i = 2 ∨ i = 3) with rfl | rfl | rfl | rfl <;> first | rfl | exact hx
    obtain ⟨T, p7⟩ : ∃ T : Nat → Nat, (nt_R M (pl 65) 1 = none ∧ v 4 = 0) ∨ v 4 = 1 := by
      obtain ⟨_, _, T, p7, _⟩ := hS
      rcases p7 1 (by decide) with c | ⟨_, _, c, _⟩
      · exact ⟨T, Or.inl c⟩
      · exact ⟨T, Or.inr c⟩
    rcases p7 with ⟨_, c⟩ | c
    · obtain ⟨y1, M1, e1, q1, i1, hB1, hS1⟩ := ly_imgN (X := X) (d := 96) (k := 1) (ko_w_n_image1 X) rfl (by decide +kernel) (by decide) hB hS c
      exact fin y1 M1 e1 q1 i1 hB1 hS1
    · obtain ⟨y1, M1, e1, q1, i1, hB1, hS1⟩ := ly_imgC (X := X) (d := 99) (k := 1) (ko_w_n_image1 X) rfl (by decide +kernel) (by decide) (by decide) hB hS c
      refine fin y1 M1 e1 q1 i1 hB1 (ly_S_cg (fun i hi => ?_) (fun i hi => rfl) rfl hS1)
      rcases (by omega : i = 0 ∨ i = 1 ∨ i = 2 ∨ i = 3) with rfl | rfl | rfl | rfl <;> first | rfl | exact c.symm
  by_cases k2 : a0.toInt = 2
  · have ea : a0 = nI 2 := Int32.toInt_inj.mp (by rw [nI_toInt (by decide)]; exact k2)
    subst ea
    have fin : ∀ (y1 : Int32) (M1 : nt_M), nt_ev X 99 127 [.ref (pl 16), .int (nI 2)] M (some (.int y1), M1) → lq_T pl M M1 → lq_I X pl v 99 2 y1 M M1 → ly_B pl v M1 → ly_S pl (fun i => if i = 2 then 1 else v (3 + i)) (fun i => if i = 2 then v 1 else v (7 + i)) (v 2) M1 → ly_P X 127 234 [.int (nI 2)] M (fun y1 y2 => y1 = y2) := by
      intro y1 M1 e1 q1 i1 hB1 hS1
      obtain ⟨y2, M2, e2, hB2, f2⟩ := ly_imgR2 (X := X) (d := 99) (by decide) hB1
      have key := lq_img2_2 hS hD i1 hB1 hS1 f2.1 e2
      rw [p16] at e1
      rw [p0] at e2
      refine ⟨y1, M1, y2, M2, e1, e2, ⟨pl, _, hB2, ly_S_fr f2.1 (ly_S_cg (fun i hi => ?_) (fun i hi => ?_) rfl hS1), hx, lq_keep f2.2 (lq_keep q1 hE), key.2⟩, key.1, ly_50 hB1 p0⟩
      · rcases (by omega : i = 0 ∨ i = 1 ∨ i = 2 ∨ i = 3) with rfl | rfl | rfl | rfl <;> rfl
      · rcases (by omega : i = 0 ∨ i = 1 ∨ i = 2 ∨ i = 3) with rfl | rfl | rfl | rfl <;> first | rfl | exact hx
    obtain ⟨T, p7⟩ : ∃ T : Nat → Nat, (nt_R M (pl 65) 2 = none ∧ v 5 = 0) ∨ v 5 = 1 := by
      obtain ⟨_, _, T, p7, _⟩ := hS
      rcases p7 2 (by decide) with c | ⟨_, _, c, _⟩
      · exact ⟨T, Or.inl c⟩
      · exact ⟨T, Or.inr c⟩
    rcases p7 with ⟨_, c⟩ | c
    · obtain ⟨y1, M1, e1, q1, i1, hB1, hS1⟩ := ly_imgN (X := X) (d := 96) (k := 2) (ko_w_n_image2 X) rfl (by decide +kernel) (by decide) hB hS c
      exact fin y1 M1 e1 q1 i1 hB1 hS1
    · obtain ⟨y1, M1, e1, q1, i1, hB1, hS1⟩ := ly_imgC (X := X) (d := 99) (k := 2) (ko_w_n_image2 X) rfl (by decide +kernel) (by decide) (by decide) hB hS c
      refine fin y1 M1 e1 q1 i1 hB1 (ly_S_cg (fun i hi => ?_) (fun i hi => rfl) rfl hS1)
      rcases (by omega : i = 0 ∨ i = 1 ∨ i = 2 ∨ i = 3) with rfl | rfl | rfl | rfl <;> first | rfl | exact c.symm
  by_cases k3 : a0.toInt = 3
  · have ea : a0 = nI 3 := Int32.toInt_inj.mp (by rw [nI_toInt (by decide)]; exact k3)
    subst ea
    have fin : ∀ (y1 : Int32) (M1 : nt_M), nt_ev X 99 127 [.ref (pl 16), .int (nI 3)] M (some (.int y1), M1) → lq_T pl M M1 → lq_I X pl v 99 3 y1 M M1 → ly_B pl v M1 → ly_S pl (fun i => if i = 3 then 1 else v (3 + i)) (fun i => if i = 3 then v 1 else v (7 + i)) (v 2) M1 → ly_P X 127 234 [.int (nI 3)] M (fun y1 y2 => y1 = y2) := by
      intro y1 M1 e1 q1 i1 hB1 hS1
      obtain ⟨y2, M2, e2, hB2, f2⟩ := ly_imgR3 (X := X) (d := 99) (by decide) hB1
      have key := lq_img2_3 hS hD i1 hB1 hS1 f2.1 e2
      rw [p16] at e1
      rw [p0] at e2
      refine ⟨y1, M1, y2, M2, e1, e2, ⟨pl, _, hB2, ly_S_fr f2.1 (ly_S_cg (fun i hi => ?_) (fun i hi => ?_) rfl hS1), hx, lq_keep f2.2 (lq_keep q1 hE), key.2⟩, key.1, ly_50 hB1 p0⟩
      · rcases (by omega : i = 0 ∨ i = 1 ∨ i = 2 ∨ i = 3) with rfl | rfl | rfl | rfl <;> rfl
      · rcases (by omega : i = 0 ∨ i = 1 ∨ i = 2 ∨ i = 3) with rfl | rfl | rfl | rfl <;> first | rfl | exact hx
    obtain ⟨T, p7⟩ : ∃ T : Nat → Nat, (nt_R M (pl 65) 3 = none ∧ v 6 = 0) ∨ v 6 = 1 := by
      obtain ⟨_, _, T, p7, _⟩ := hS
      rcases p7 3 (by decide) with c | ⟨_, _, c, _⟩
      · exact ⟨T, Or.inl c⟩
      · exact ⟨T, Or.inr c⟩
    rcases p7 with ⟨_, c⟩ | c
    · obtain ⟨y1, M1, e1, q1, i1, hB1, hS1⟩ := ly_imgN (X := X) (d := 96) (k := 3) (ko_w_n_image3 X) rfl (by decide +kernel) (by decide) hB hS c
      exact fin y1 M1 e1 q1 i1 hB1 hS1
    · obtain ⟨y1, M1, e1, q1, i1, hB1, hS1⟩ := ly_imgC (X := X) (d := 99) (k := 3) (ko_w_n_image3 X) rfl (by decide +kernel) (by decide) (by decide) hB hS c
      refine fin y1 M1 e1 q1 i1 hB1 (ly_S_cg (fun i hi => ?_) (fun i hi => rfl) rfl hS1)
      rcases (by omega : i = 0 ∨ i = 1 ∨ i = 2 ∨ i = 3) with rfl | rfl | rfl | rfl <;> first | rfl | exact c.symm
  omega
theorem ly_c_back {X : nt_X} {M : nt_M} (a0 : Int32) (hI : ly_Inv M) : ly_P X 128 235 [.int a0] M (fun y1 y2 => y1 = y2) := by
  have la := a0.le_toInt
  have lb := a0.toInt_lt
  by_cases c1 : a0.toInt < 0
  · exact ly_twoE hI (fun pl v hB _ => ly_o1 a0 (by omega) (by omega) (ko_w_n_backL X) rfl (by decide +kernel) (by decide +kernel) (by decide) hB) (fun pl v M hB => ly_o1 a0 (by omega) (by omega) (ko_w_backL X) rfl (by decide +kernel) (by decide +kernel) (by decide) hB) (fun pl v y M' hB k => by obtain ⟨y0, M0, e, h⟩ := lwd_n_backL (by decide) hB (lq_bt hB).1 (lq_bt hB).2 ⟨by omega, by omega⟩ k; obtain ⟨ey, eM⟩ := lq_out e; subst ey; subst eM; exact h) (fun pl v M y M' hB k => by obtain ⟨y0, M0, e, h⟩ := lwd_backL (by decide) hB (lq_bt hB).1 (lq_bt hB).2 ⟨by omega, by omega⟩ k; obtain ⟨ey, eM⟩ := lq_out e; subst ey; subst eM; exact h)
  by_cases c2 : 3 < a0.toInt
  · exact ly_twoE hI (fun pl v hB _ => ly_o1 a0 (by omega) (by omega) (ko_w_n_backH X) rfl (by decide +kernel) (by decide +kernel) (by decide) hB) (fun pl v M hB => ly_o1 a0 (by omega) (by omega) (ko_w_backH X) rfl (by decide +kernel) (by decide +kernel) (by decide) hB) (fun pl v y M' hB k => by obtain ⟨y0, M0, e, h⟩ := lwd_n_backH (by decide) hB (lq_bt hB).1 (lq_bt hB).2 ⟨by omega, by omega⟩ k; obtain ⟨ey, eM⟩ := lq_out e; subst ey; subst eM; exact h) (fun pl v M y M' hB k => by obtain ⟨y0, M0, e, h⟩ := lwd_backH (by decide) hB (lq_bt hB).1 (lq_bt hB).2 ⟨by omega, by omega⟩ k; obtain ⟨ey, eM⟩ := lq_out e; subst ey; subst eM; exact h)
  obtain ⟨pl, v, hB, hS, hx, hE, hD⟩ := hI
  have p16 := hS.1.2.1
  have p0 := hS.1.2.2.1
  by_cases k0 : a0.toInt = 0
  · have ea : a0 = nI 0 := Int32.toInt_inj.mp (by rw [nI_toInt (by decide)]; exact k0)
    subst ea
    obtain ⟨T, p7⟩ : ∃ T : Nat → Nat, (nt_R M (pl 65) 0 = none ∧ v 3 = 0) ∨ v 3 = 1 := by
      obtain ⟨_, _, T, p7, _⟩ := hS
      rcases p7 0 (by decide) with c | ⟨_, _, c, _⟩
      · exact ⟨T, Or.inl c⟩
      · exact ⟨T, Or.inr c⟩
    rcases p7 with ⟨cn, c⟩ | c
    · obtain ⟨y1, M1, e1, hB1, f1⟩ := ly_backN (X := X) (d := 99) (k := 0) (ko_w_n_back0N X) rfl (by decide) hB cn
      obtain ⟨y2, M2, e2, hB2, f2⟩ := ly_gen (X := X) (d := 99) (r := v) (ec := []) (vs := [.ref (pl 0), .int (nI 0)]) (ko_w_back0N X) rfl (by decide) (by decide +kernel) (by decide +kernel) (by decide) hB1 (fun _ _ => rfl) ⟨rfl, ⟨nI 0, rfl, (sx_c_e v 0).symm⟩, trivial⟩ (fun q hq => by cases hq) (ly_oba (ly_ob1 (by omega)) (ly_ob hB1)) ly_oc0
      have key := lq_back2_0N hB hS cn hD hB1 c f1.1 f2.1 e1 e2
      rw [p16] at e1
      rw [p0] at e2
      exact ⟨y1, M1, y2, M2, e1, e2, ⟨pl, v, hB2, ly_S_fr f2.1 (ly_S_fr f1.1 hS), hx, lq_keep f2.2 (lq_keep f1.2 hE), key.2⟩, key.1, ly_50 hB1 p0⟩
    · obtain ⟨y1, M1, e1, hB1, f1⟩ := ly_backC (X := X) (d := 99) (k := 0) (ko_w_n_back0 X) rfl (by decide +kernel) (by decide) (by decide) hB hS c
      obtain ⟨y2, M2, e2, hB2, f2⟩ := ly_backR0 (X := X) (d := 99) (by decide) hB1 c
      have key := lq_back2_0 hB hS c hD hB1 c f1.1 f2.1 e1 e2
      rw [p16] at e1
      rw [p0] at e2
      exact ⟨y1, M1, y2, M2, e1, e2, ⟨pl, _, hB2, ly_S_fr f2.1 (ly_S_fr f1.1 (ly_S_cg (fun i hi => by rcases (by omega : i = 0 ∨ i = 1 ∨ i = 2 ∨ i = 3) with rfl | rfl | rfl | rfl <;> rfl) (fun i hi => by rcases (by omega : i = 0 ∨ i = 1 ∨ i = 2 ∨ i = 3) with rfl | rfl | rfl | rfl <;> rfl) rfl hS)), rfl, lq_keep f2.2 (lq_keep f1.2 hE), key.2⟩, key.1, ly_50 hB1 p0⟩
  by_cases k1 : a0.toInt = 1
  · have ea : a0 = nI 1 := Int32.toInt_inj.mp (by rw [nI_toInt (by decide)]; exact k1)
    subst ea
    obtain ⟨T, p7⟩ : ∃ T : Nat → Nat, (nt_R M (pl 65) 1 = none ∧ v 4 = 0) ∨ v 4 = 1 := by
      obtain ⟨_, _, T, p7, _⟩ := hS
      rcases p7 1 (by decide) with c | ⟨_, _, c, _⟩
      · exact ⟨T, Or.inl c⟩
      · exact ⟨T, Or.inr c⟩
    rcases p7 with ⟨cn, c⟩ | c
    · obtain ⟨y1, M1, e1, hB1, f1⟩ := ly_backN (X := X) (d := 99) (k := 1) (ko_w_n_back1N X) rfl (by decide) hB cn
      obtain ⟨y2, M2, e2, hB2, f2⟩ := ly_gen (X := X) (d := 99) (r := v) (ec := []) (vs := [.ref (pl 0), .int (nI 1)]) (ko_w_back1N X) rfl (by decide) (by decide +kernel) (by decide +kernel) (by decide) hB1 (fun _ _ => rfl) ⟨rfl, ⟨nI 1, rfl, (sx_c_e v 1).symm⟩, trivial⟩ (fun q hq => by cases hq) (ly_oba (ly_ob1 (by omega)) (ly_ob hB1)) ly_oc0
      have key := lq_back2_1N hB hS cn hD hB1 c f1.1 f2.1 e1 e2
      rw [p16] at e1
      rw [p0] at e2
      exact ⟨y1, M1, y2, M2, e1, e2, ⟨pl, v, hB2, ly_S_fr f2.1 (ly_S_fr f1.1 hS), hx, lq_keep f2.2 (lq_keep f1.2 hE), key.2⟩, key.1, ly_50 hB1 p0⟩
    · obtain ⟨y1, M1, e1, hB1, f1⟩ := ly_backC (X := X) (d := 99) (k := 1) (ko_w_n_back1 X) rfl (by decide +kernel) (by decide) (by decide) hB hS c
      obtain ⟨y2, M2, e2, hB2, f2⟩ := ly_backR1 (X := X) (d := 99) (by decide) hB1 c
      have key := lq_back2_1 hB hS c hD hB1 c f1.1 f2.1 e1 e2
      rw [p16] at e1
      rw [p0] at e2
      exact ⟨y1, M1, y2, M2, e1, e2, ⟨pl, _, hB2, ly_S_fr f2.1 (ly_S_fr f1.1 (ly_S_cg (fun i hi => by rcases (by omega : i = 0 ∨ i = 1 ∨ i = 2 ∨ i = 3) with rfl | rfl | rfl | rfl <;> rfl) (fun i hi => by rcases (by omega : i = 0 ∨ i = 1 ∨ i = 2 ∨ i = 3) with rfl | rfl | rfl | rfl <;> rfl) rfl hS)), rfl, lq_keep f2.2 (lq_keep f1.2 hE), key.2⟩, key.1, ly_50 hB1 p0⟩
  by_cases k2 : a0.toInt = 2
  · have ea : a0 = nI 2 := Int32.toInt_inj.mp (by rw [nI_toInt (by decide)]; exact k2)
    subst ea
    obtain ⟨T, p7⟩ : ∃ T : Nat → Nat, (nt_R M (pl 65) 2 = none ∧ v 5 = 0) ∨ v 5 = 1 := by
      obtain ⟨_, _, T, p7, _⟩ := hS
      rcases p7 2 (by decide) with c | ⟨_, _, c, _⟩
      · exact ⟨T, Or.inl c⟩
      · exact ⟨T, Or.inr c⟩
    rcases p7 with ⟨cn, c⟩ | c
    · obtain ⟨y1, M1, e1, hB1, f1⟩ := ly_backN (X := X) (d := 99) (k := 2) (ko_w_n_back2N X) rfl (by decide) hB cn
      obtain ⟨y2, M2, e2, hB2, f2⟩ := ly_gen (X := X) (d := 99) (r := v) (ec := []) (vs := [.ref (pl 0), .int (nI 2)]) (ko_w_back2N X) rfl (by decide) (by decide +kernel) (by decide +kernel) (by decide) hB1 (fun _ _ => rfl) ⟨rfl, ⟨nI 2, rfl, (sx_c_e v 2).symm⟩, trivial⟩ (fun q hq => by cases hq) (ly_oba (ly_ob1 (by omega)) (ly_ob hB1)) ly_oc0
      have key := lq_back2_2N hB hS cn hD hB1 c f1.1 f2.1 e1 e2
      rw [p16] at e1
      rw [p0] at e2
      exact ⟨y1, M1, y2, M2, e1, e2, ⟨pl, v, hB2, ly_S_fr f2.1 (ly_S_fr f1.1 hS), hx, lq_keep f2.2 (lq_keep f1.2 hE), key.2⟩, key.1, ly_50 hB1 p0⟩
    · obtain ⟨y1, M1, e1, hB1, f1⟩ := ly_backC (X := X) (d := 99) (k := 2) (ko_w_n_back2 X) rfl (by decide +kernel) (by decide) (by decide) hB hS c
      obtain ⟨y2, M2, e2, hB2, f2⟩ := ly_backR2 (X := X) (d := 99) (by decide) hB1 c
      have key := lq_back2_2 hB hS c hD hB1 c f1.1 f2.1 e1 e2
      rw [p16] at e1
      rw [p0] at e2
      exact ⟨y1, M1, y2, M2, e1, e2, ⟨pl, _, hB2, ly_S_fr f2.1 (ly_S_fr f1.1 (ly_S_cg (fun i hi => by rcases (by omega : i = 0 ∨ i = 1 ∨ i = 2 ∨ i = 3) with rfl | rfl | rfl | rfl <;> rfl) (fun i hi => by rcases (by omega : i = 0 ∨ i = 1 ∨ i = 2 ∨ i = 3) with rfl | rfl | rfl | rfl <;> rfl) rfl hS)), rfl, lq_keep f2.2 (lq_keep f1.2 hE), key.2⟩, key.1, ly_50 hB1 p0⟩
  by_cases k3 : a0.toInt = 3
  · have ea : a0 = nI 3 := Int32.toInt_inj.mp (by rw [nI_toInt (by decide)]; exact k3)
    subst ea
    obtain ⟨T, p7⟩ : ∃ T : Nat → Nat, (nt_R M (pl 65) 3 = none ∧ v 6 = 0) ∨ v 6 = 1 := by
      obtain ⟨_, _, T, p7, _⟩ := hS
      rcases p7 3 (by decide) with c | ⟨_, _, c, _⟩
      · exact ⟨T, Or.inl c⟩
      · exact ⟨T, Or.inr c⟩
    rcases p7 with ⟨cn, c⟩ | c
    · obtain ⟨y1, M1, e1, hB1, f1⟩ := ly_backN (X := X) (d := 99) (k := 3) (ko_w_n_back3N X) rfl (by decide) hB cn
      obtain ⟨y2, M2, e2, hB2, f2⟩ := ly_gen (X := X) (d := 99) (r := v) (ec := []) (vs := [.ref (pl 0), .int (nI 3)]) (ko_w_back3N X) rfl (by decide) (by decide +kernel) (by decide +kernel) (by decide) hB1 (fun _ _ => rfl) ⟨rfl, ⟨nI 3, rfl, (sx_c_e v 3).symm⟩, trivial⟩ (fun q hq => by cases hq) (ly_oba (ly_ob1 (by omega)) (ly_ob hB1)) ly_oc0
      have key := lq_back2_3N hB hS cn hD hB1 c f1.1 f2.1 e1 e2
      rw [p16] at e1
      rw [p0] at e2
      exact ⟨y1, M1, y2, M2, e1, e2, ⟨pl, v, hB2, ly_S_fr f2.1 (ly_S_fr f1.1 hS), hx, lq_keep f2.2 (lq_keep f1.2 hE), key.2⟩, key.1, ly_50 hB1 p0⟩
    · obtain ⟨y1, M1, e1, hB1, f1⟩ := ly_backC (X := X) (d := 99) (k := 3) (ko_w_n_back3 X) rfl (by decide +kernel) (by decide) (by decide) hB hS c
      obtain ⟨y2, M2, e2, hB2, f2⟩ := ly_backR3 (X := X) (d := 99) (by decide) hB1 c
      have key := lq_back2_3 hB hS c hD hB1 c f1.1 f2.1 e1 e2
      rw [p16] at e1
      rw [p0] at e2
      exact ⟨y1, M1, y2, M2, e1, e2, ⟨pl, _, hB2, ly_S_fr f2.1 (ly_S_fr f1.1 (ly_S_cg (fun i hi => by rcases (by omega : i = 0 ∨ i = 1 ∨ i = 2 ∨ i = 3) with rfl | rfl | rfl | rfl <;> rfl) (fun i hi => by rcases (by omega : i = 0 ∨ i = 1 ∨ i = 2 ∨ i = 3) with rfl | rfl | rfl | rfl <;> rfl) rfl hS)), rfl, lq_keep f2.2 (lq_keep f1.2 hE), key.2⟩, key.1, ly_50 hB1 p0⟩
  omega
