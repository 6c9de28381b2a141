section
/-! the tapes, the counts of rules are the same -/
def lq_E (pl : Nat → Nat) (M : nt_M) : Prop := ∃ t n : Nat, t ≤ 400 ∧ n ≤ 6 ∧ nt_I M (pl 17) 1 = nI t ∧ nt_I M (pl 0) 1 = nI t ∧ (∀ j, nt_I M (pl 8) j = nt_I M (pl 18) j) ∧ (∀ j, -128 ≤ (nt_I M (pl 18) j).toInt ∧ (nt_I M (pl 18) j).toInt ≤ 127) ∧ nt_I M (pl 16) 4 = nI n ∧ nt_I M (pl 0) 2 = nI n
theorem lq_keep {pl : Nat → Nat} {M M' : nt_M} (h : lq_T pl M M') (hE : lq_E pl M) : lq_E pl M' := by
  obtain ⟨t, n, a, b, c, d, e, f, g, i⟩ := hE
  have c18 := fun j => h 18 j (Or.inr (Or.inl rfl))
  exact ⟨t, n, a, b, (h 17 1 (Or.inl rfl)).trans c, (h 0 1 (Or.inr (Or.inr (Or.inr (Or.inr ⟨rfl, Or.inl rfl⟩))))).trans d, fun j => (h 8 j (Or.inr (Or.inr (Or.inl rfl)))).trans ((e j).trans (c18 j).symm), fun j => by rw [c18 j]; exact f j, (h 16 4 (Or.inr (Or.inr (Or.inr (Or.inl ⟨rfl, rfl⟩))))).trans g, (h 0 2 (Or.inr (Or.inr (Or.inr (Or.inr ⟨rfl, Or.inr rfl⟩))))).trans i⟩
theorem lq_ne {pl : Nat → Nat} {v : Nat → Int} {M : nt_M} (hB : ly_B pl v M) (g h : Nat) (hg : g < 66) (hh : h < 66) (e : g ≠ h) : pl g ≠ pl h := fun c => e (hB.1 g h hg hh c)
theorem lq_feed2 {X : nt_X} {pl : Nat → Nat} {v : Nat → Int} {M M1 M2 : nt_M} {y1 y2 a0 a1 a2 a3 a4 : Int32} (hB : ly_B pl v M) (hB1 : ly_B pl v M1) (hE : lq_E pl M) (e1 : nt_ev X 99 102 [.ref (pl 16), .int a0, .int a1, .int a2, .int a3, .int a4] M (some (.int y1), M1)) (e2 : nt_ev X 99 130 [.ref (pl 0), .int a0, .int a1, .int a2, .int a3, .int a4] M1 (some (.int y2), M2)) : y1 = y2 ∧ lq_E pl M2 := by
  have hE0 := hE
  obtain ⟨t, n, ht, hn, h17, h01, h8, hb, h16, h02⟩ := hE
  have ne := lq_ne hB
  have g18 := hB.2.1.2 18 _ (show ly_E.2.1[18]? = some (12, 400, 400, 0) from rfl)
  have g8 := hB1.2.1.2 8 _ (show ly_E.2.1[8]? = some (12, 400, 400, 0) from rfl)
  have rT := ly_ref (g := 16) (j := 0) (k := 17) hB (List.mem_of_getElem? (i := 0) rfl)
  have rY := ly_ref (g := 17) (j := 0) (k := 18) hB (List.mem_of_getElem? (i := 28) rfl)
  have rB := ly_ref (g := 0) (j := 0) (k := 8) hB1 (List.mem_of_getElem? (i := 20) rfl)
  rcases lq_feedC (J := nt_I M) rT rY (ne 18 17 (by omega) (by omega) (by decide)) g18.2.1 h17 ht e1 with ⟨c, e⟩ | ⟨c, J1, e, l1, w1, f1, o1⟩
  · obtain ⟨ey, eM⟩ := lq_out e
    have eM : M1 = M := eM
    subst eM
    rcases lq_feedR (J := nt_I M1) rB (ne 8 0 (by omega) (by omega) (by decide)) g8.2.1 h01 ht e2 with ⟨c2, e⟩ | ⟨c2, _⟩
    · obtain ⟨ey2, eM2⟩ := lq_out e
      have eM2 : M2 = M1 := eM2
      subst eM2
      exact ⟨by rw [ey, ey2], hE0⟩
    · omega
  · obtain ⟨ey, eM⟩ := lq_out e
    have i1 : nt_I M1 = J1 := by rw [eM]; rfl
    have h01' : nt_I M1 (pl 0) 1 = nI t := by rw [i1, o1 _ (ne 0 17 (by omega) (by omega) (by decide)) (ne 0 18 (by omega) (by omega) (by decide))]; exact h01
    rcases lq_feedR (J := nt_I M1) rB (ne 8 0 (by omega) (by omega) (by decide)) g8.2.1 h01' ht e2 with ⟨c2, _⟩ | ⟨c2, J2, e, l2, w2, f2, o2⟩
    · omega
    · obtain ⟨ey2, eM2⟩ := lq_out e
      have i2 : nt_I M2 = J2 := by rw [eM2]; rfl
      refine ⟨by rw [ey, ey2], t + 20, n, by omega, hn, ?_, ?_, fun j => ?_, fun j => ?_, ?_, ?_⟩
      · rw [i2, o2 _ (ne 17 0 (by omega) (by omega) (by decide)) (ne 17 8 (by omega) (by omega) (by decide)), i1]
        exact l1
      · rw [i2]
        exact l2
      · rw [i2, w2, o2 _ (ne 18 0 (by omega) (by omega) (by decide)) (ne 18 8 (by omega) (by omega) (by decide)), i1, w1, o1 _ (ne 8 17 (by omega) (by omega) (by decide)) (ne 8 18 (by omega) (by omega) (by decide)), show nt_I M (pl 8) = nt_I M (pl 18) from funext h8]
      · rw [i2, o2 _ (ne 18 0 (by omega) (by omega) (by decide)) (ne 18 8 (by omega) (by omega) (by decide)), i1, w1]
        exact lq_wb (lq_wb (lq_wb (lq_wb (lq_wb hb)))) j
      · rw [i2, o2 _ (ne 16 0 (by omega) (by omega) (by decide)) (ne 16 8 (by omega) (by omega) (by decide)), i1, o1 _ (ne 16 17 (by omega) (by omega) (by decide)) (ne 16 18 (by omega) (by omega) (by decide))]
        exact h16
      · rw [i2, f2 2 (by decide), i1, o1 _ (ne 0 17 (by omega) (by omega) (by decide)) (ne 0 18 (by omega) (by omega) (by decide))]
        exact h02
theorem lq_end2 {X : nt_X} {pl : Nat → Nat} {v : Nat → Int} {M M1 M2 : nt_M} {y1 y2 a : Int32} (hB : ly_B pl v M) (hE : lq_E pl M) (e1 : nt_ev X 99 103 [.ref (pl 16), .int a] M (some (.int y1), M1)) (e2 : nt_ev X 99 132 [.ref (pl 0), .int a] M1 (some (.int y2), M2)) : y1 = y2 ∧ lq_E pl M2 := by
  have hE0 := hE
  obtain ⟨t, n, ht, hn, h17, h01, h8, hb, h16, h02⟩ := hE
  have ne := lq_ne hB
  have rT := ly_ref (g := 16) (j := 0) (k := 17) hB (List.mem_of_getElem? (i := 0) rfl)
  rcases lq_endC (J := nt_I M) rT h17 e1 with ⟨c, e⟩ | ⟨c, c', e⟩
  · obtain ⟨ey, eM⟩ := lq_out e
    have eM : M1 = M := eM
    subst eM
    rcases lq_endR (J := nt_I M1) h01 e2 with ⟨c2, e⟩ | ⟨c2, c3, _⟩
    · obtain ⟨ey2, eM2⟩ := lq_out e
      have eM2 : M2 = M1 := eM2
      subst eM2
      exact ⟨by rw [ey, ey2], hE0⟩
    · exact absurd c (fun c => c.elim c2 (fun c => c c3))
  · obtain ⟨ey, eM⟩ := lq_out e
    have i1 : nt_I M1 = nt_u (nt_I M) (pl 17) 1 a := by rw [eM]; rfl
    have h01' : nt_I M1 (pl 0) 1 = nI t := by rw [i1, me_uo (ne 0 17 (by omega) (by omega) (by decide))]; exact h01
    rcases lq_endR (J := nt_I M1) h01' e2 with ⟨c2, e⟩ | ⟨c2, c3, e⟩
    · exact absurd c2 (fun h => h.elim c (fun h => h c'))
    · obtain ⟨ey2, eM2⟩ := lq_out e
      have i2 : nt_I M2 = nt_u (nt_I M1) (pl 0) 1 a := by rw [eM2]; rfl
      have a0 : 0 ≤ a.toInt := by
        have : ¬ a.toInt < (0 : Int32).toInt := fun h => c (Int32.lt_iff_toInt_lt.mpr h)
        have z : (0 : Int32).toInt = 0 := by decide
        omega
      have a1 : a.toInt ≤ t := by
        have := Int32.le_iff_toInt_le.mp c'
        rw [nI_toInt (by omega)] at this
        exact this
      have ea : a = nI a.toInt.toNat := Int32.toInt_inj.mp (by rw [nI_toInt (by omega)]; omega)
      refine ⟨by rw [ey, ey2], a.toInt.toNat, n, by omega, hn, ?_, ?_, fun j => ?_, fun j => ?_, ?_, ?_⟩
      · rw [i2, me_uo (ne 17 0 (by omega) (by omega) (by decide)), i1, me_us]
        exact ea
      · rw [i2, me_us]
        exact ea
      · rw [i2, me_uo (ne 8 0 (by omega) (by omega) (by decide)), me_uo (ne 18 0 (by omega) (by omega) (by decide)), i1, me_uo (ne 8 17 (by omega) (by omega) (by decide)), me_uo (ne 18 17 (by omega) (by omega) (by decide))]
        exact h8 j
      · rw [i2, me_uo (ne 18 0 (by omega) (by omega) (by decide)), i1, me_uo (ne 18 17 (by omega) (by omega) (by decide))]
        exact hb j
      · rw [i2, me_uo (ne 16 0 (by omega) (by omega) (by decide)), i1, me_uo (ne 16 17 (by omega) (by omega) (by decide))]
        exact h16
      · rw [i2, me_uk (by decide), i1, me_uo (ne 0 17 (by omega) (by omega) (by decide))]
        exact h02
theorem lc_Qf {J0 J : Nat → Nat → Int32} {Rd RR Sp t : Nat} {r : lb_Y} (h : lc_Q J0 Rd RR Sp t r J) (a : Nat) (h1 : a ≠ Rd) (h2 : a ≠ RR) (h3 : a ≠ Sp) : J a = J0 a := by
  cases r with
  | inl c =>
    obtain ⟨_, m, s, hS⟩ := h
    exact hS.2.2.2.2.2.1 a h1 h2 h3
  | inr z => exact h.1.2.2.2.2.2.1 a h1 h2 h3
/-! rules -/
theorem mg_c2_lb {f : Nat → Int32} {t x : Nat} : ∀ (k i : Nat) (z : lb_Z) (r : lb_Y) (cl : Nat → Int32) (cc : Nat) (cl' : Nat → Int32) (cc' : Nat), mg_c2 f t x k i z r cl cc cl' cc' → lb_c2 f t k i z r := by
  intro k
  induction k with
  | zero => intro i z r cl cc cl' cc' h; exact h
  | succ k ih =>
    intro i z r cl cc cl' cc' h
    rcases h with ⟨g, r1, cl1, cc1, h1, h2⟩ | ⟨g, h, _⟩ | h
    · exact Or.inl ⟨g, r1, h1.1, lb_th_up (fun z1 q => ih _ _ _ _ _ _ _ q) h2⟩
    · exact Or.inr (Or.inl ⟨g, h⟩)
    · exact Or.inr (Or.inr h)
theorem zIv_ru2 {f : Nat → Int32} {t x k : Nat} {zf : lb_Z} {cl0 cl' g' h' : Nat → Int32} {cc' : Nat} (ht : t ≤ 400) (h : lb_cs f t k 0 (lb_s f t 0, 0, ((0, fun _ => 0), (0, fun _ => 0))) (.inr zf)) (h3 : mg_c3 f t x (lb_s f t 0, 0, ((0, fun _ => 0), (0, fun _ => 0))) (.inr zf) cl0 cl' cc') (hg : ∀ j, j < zf.2.2.1.1 → g' j = zf.2.2.1.2 j) (hh : ∀ j, j < zf.2.2.2.1 → h' j = zf.2.2.2.2 j) : zRu g' h' (fun j => cl' (48 * x + j)) cc' zf.2.2.1.1 := by
  obtain ⟨r1, cl1, cc1, h1, h2⟩ := h3
  have q := lb_s_le (f := f) (t := t) t 0 (by omega)
  have hI : zIv t x (lb_s f t 0, 0, ((0, fun _ => 0), (0, fun _ => 0))) cl0 0 := ⟨q.2, Nat.zero_le _, Nat.zero_le _, Nat.le_refl _, fun _ => 0, rfl, rfl, fun i hi => by omega⟩
  have z := zIv_k ht k 0 _ zf r1 cl0 cl1 cl' 0 cc1 cc' hI h h1 h2
  obtain ⟨pl, hm, hl, hd, pos, p0, pc, hp⟩ := z
  refine ⟨pos, p0, pc, fun i hi => ?_⟩
  have hb := (hp i hi).1
  have := (zCb_l (zCb_ag (hp i hi).2 (fun j hj => hg j (by omega)) hh (fun _ _ => rfl) (Nat.le_refl _)) (by omega)).1
  have e : (fun r => cl' (48 * x + 4 * i + r)) = (fun r => (fun j => cl' (48 * x + j)) (4 * i + r)) := by
    funext r
    show _ = cl' (48 * x + (4 * i + r))
    rw [Nat.add_assoc]
  rw [e] at this
  exact this
theorem zRQ_ag2 {p : Nat → Nat} {sp ln T : Nat} {Jc Jr Jc' Jr' : Nat → Nat → Int32} (h : zRQ p sp ln T Jc Jr) (hc : Jc' sp = Jc sp) (h1 : ∀ j, j < 400 → Jr' (p 1) (400 * T + j) = Jr (p 1) (400 * T + j)) (h2 : ∀ j, j < 48 → Jr' (p 2) (48 * T + j) = Jr (p 2) (48 * T + j)) (h3 : Jr' (p 3) T = Jr (p 3) T) : zRQ p sp ln T Jc' Jr' := by
  obtain ⟨a, b, c, g, h, cl, k, d1, d2, d3, d4, d5, d6⟩ := h
  exact ⟨a, b, c, g, h, cl, k, d1, fun j hj => by rw [hc]; exact d2 j hj, fun j hj => by rw [h1 j hj]; exact d3 j hj, fun j hj => by rw [h2 j hj]; exact d4 j hj, by rw [h3]; exact d5, d6⟩
theorem zz_rule2 {X : nt_X} {pl : Nat → Nat} {v v' mk xi : Nat → Int} {M M1 M2 : nt_M} {y1 y2 : Int32} (hB : ly_B pl v M) (hB1 : ly_B pl v' M1) (hS : ly_S pl mk xi (v 2) M) (hZ : zz_E pl M) (hE : lq_E pl M) (hn2 : nt_n M ≤ nt_n M1) (hS1 : ly_S pl mk xi (v' 2) M1) (hp : ∀ g, g < 66 → pl g < nt_n M) (hR : lq_R X pl v v' 98 y1 M M1) (e2 : nt_ev X 99 133 [.ref (pl 0)] M1 (some (.int y2), M2)) : y1 = y2 ∧ lq_E pl M2 ∧ zz_E pl M2 := by
  have hE0 := hE
  obtain ⟨t, n, ht, hn, h17, h01, h8, hb, h16, h02⟩ := hE
  have ne := lq_ne hB
  have vn : v 2 = (n : Int) := by
    have := ly_vI hB
    rw [h16, nI_toInt (by omega)] at this
    exact this.symm
  have hO : md_O M1 (pl 0) (pl 8) (pl 1) (pl 10) (pl 9) := ⟨ly_ref (g := 0) (j := 22) (k := 9) hB1 (List.mem_of_getElem? (i := 21) rfl), ⟨ne 9 0 (by omega) (by omega) (by decide), ne 9 8 (by omega) (by omega) (by decide), ne 9 1 (by omega) (by omega) (by decide), ne 9 10 (by omega) (by omega) (by decide)⟩, by have := (hB1.2.1.2 9 _ (show ly_E.2.1[9]? = some (13, 400, 400, 0) from rfl)).2.2.1; dsimp only at this; omega, lq_sp hB1 (show ly_E.2.1[9]? = some (13, 400, 400, 0) from rfl)⟩
  have hK2 : mg_K2 (pl 9) (pl 2) (pl 3) := ⟨ne 2 9 (by omega) (by omega) (by decide), ne 3 9 (by omega) (by omega) (by decide), ne 2 3 (by omega) (by omega) (by decide)⟩
  have hK : md_K M1 (pl 0) (pl 8) (pl 1) (pl 10) (pl 2) (pl 3) := ⟨ly_ref (g := 0) (j := 5) (k := 2) hB1 (List.mem_of_getElem? (i := 14) rfl), ly_ref (g := 0) (j := 6) (k := 3) hB1 (List.mem_of_getElem? (i := 15) rfl), ⟨ne 2 0 (by omega) (by omega) (by decide), ne 2 8 (by omega) (by omega) (by decide), ne 2 1 (by omega) (by omega) (by decide), ne 2 10 (by omega) (by omega) (by decide)⟩, ⟨ne 3 0 (by omega) (by omega) (by decide), ne 3 8 (by omega) (by omega) (by decide), ne 3 1 (by omega) (by omega) (by decide), ne 3 10 (by omega) (by omega) (by decide)⟩, lq_sp hB1 (show ly_E.2.1[2]? = some (13, 288, 288, 0) from rfl), lq_sp hB1 (show ly_E.2.1[3]? = some (13, 6, 6, 14) from rfl)⟩
  have hP0 : nt_I M1 (pl 0) 1 = nI t → (∀ j, nt_I M1 (pl 8) j = nt_I M (pl 18) j) → mg_P0 M1 (nt_I M1) (nt_I M (pl 18)) t (pl 0) (pl 8) (pl 1) (pl 10) := fun q1 q2 => ⟨⟨ly_ref (g := 0) (j := 0) (k := 8) hB1 (List.mem_of_getElem? (i := 20) rfl), ly_ref (g := 0) (j := 3) (k := 1) hB1 (List.mem_of_getElem? (i := 13) rfl), ly_ref (g := 0) (j := 4) (k := 10) hB1 (List.mem_of_getElem? (i := 22) rfl)⟩, ⟨ne 8 0 (by omega) (by omega) (by decide), ne 8 1 (by omega) (by omega) (by decide), ne 8 10 (by omega) (by omega) (by decide), ne 0 1 (by omega) (by omega) (by decide), ne 0 10 (by omega) (by omega) (by decide), ne 1 10 (by omega) (by omega) (by decide)⟩, q1, q2, ht, by have := (hB1.2.1.2 1 _ (show ly_E.2.1[1]? = some (13, 2400, 2400, 0) from rfl)).2.2.1; dsimp only at this; omega, lq_sp hB1 (show ly_E.2.1[1]? = some (13, 2400, 2400, 0) from rfl), lq_sp hB1 (show ly_E.2.1[10]? = some (13, 7, 7, 13) from rfl)⟩
  have hby : lb_by (nt_I M (pl 18)) t := fun j _ => hb j
  rcases hR with ⟨c6, ey, eM⟩ | ⟨c6, x, MR, kr, q17, qo, qr, hx⟩
  · subst eM
    rcases mg_rule (J := nt_I M1) (hP0 h01 h8) hO hK hK2 hby h02 hn e2 with ⟨n6, e⟩ | ⟨n6, _⟩
    · obtain ⟨ey2, eM2⟩ := lq_out e
      have eM2 : M2 = M1 := eM2
      subst eM2
      exact ⟨by rw [ey, ey2], hE0, hZ⟩
    · omega
  · have hP : lc_P M (nt_I M) (nt_I M (pl 18)) t (pl 19) (pl 17) (pl 18) (pl 21) (pl 22) := ⟨⟨ly_ref (g := 19) (j := 0) (k := 17) hB (List.mem_of_getElem? (i := 12) rfl), ly_ref (g := 17) (j := 0) (k := 18) hB (List.mem_of_getElem? (i := 28) rfl), ly_ref (g := 21) (j := 0) (k := 19) hB (List.mem_of_getElem? (i := 10) rfl), ly_ref (g := 21) (j := 1) (k := 22) hB (List.mem_of_getElem? (i := 11) rfl)⟩, ⟨ne 17 19 (by omega) (by omega) (by decide), ne 17 21 (by omega) (by omega) (by decide), ne 17 22 (by omega) (by omega) (by decide), ne 18 19 (by omega) (by omega) (by decide), ne 18 21 (by omega) (by omega) (by decide), ne 18 22 (by omega) (by omega) (by decide), ne 19 21 (by omega) (by omega) (by decide), ne 19 22 (by omega) (by omega) (by decide), ne 21 22 (by omega) (by omega) (by decide)⟩, h17, fun _ => rfl, ht, by have := (hB.2.1.2 22 _ (show ly_E.2.1[22]? = some (13, 400, 400, 0) from rfl)).2.2.1; dsimp only at this; omega, lq_sp hB (show ly_E.2.1[22]? = some (13, 400, 400, 0) from rfl)⟩
    obtain ⟨k0, r, J1, e, hcs, hQ⟩ := lc_read (J := nt_I M) (E2 := (0, fun _ => 0)) hP (fun _ _ _ _ => rfl) kr
    obtain ⟨ex, eMR⟩ := lq_out e
    have iR : nt_I MR = J1 := by rw [eMR]; rfl
    have old : ∀ g, g < 66 → g ≠ 19 → g ≠ 21 → g ≠ 22 → nt_I MR (pl g) = nt_I M (pl g) := fun g hg a1 a2 a3 => by
      rw [iR]
      exact lc_Qf hQ (pl g) (ne g 19 hg (by omega) a1) (ne g 21 hg (by omega) a2) (ne g 22 hg (by omega) a3)
    have o1 : ∀ g j, lq_c g j → g ≠ 17 → g ≠ 16 → nt_I M1 (pl g) j = nt_I M (pl g) j := fun g j hc a1 a2 => by
      rw [qo (pl g) j (hp g (lq_c66 hc)) (ne g 17 (lq_c66 hc) (by omega) a1) (ne g 16 (lq_c66 hc) (by omega) a2), old g (lq_c66 hc) (by rcases hc with h | h | h | h | h <;> omega) (by rcases hc with h | h | h | h | h <;> omega) (by rcases hc with h | h | h | h | h <;> omega)]
    have c01 : lq_c 0 1 := Or.inr (Or.inr (Or.inr (Or.inr ⟨rfl, Or.inl rfl⟩)))
    have c02 : lq_c 0 2 := Or.inr (Or.inr (Or.inr (Or.inr ⟨rfl, Or.inr rfl⟩)))
    have c8 : ∀ j, lq_c 8 j := fun j => Or.inr (Or.inr (Or.inl rfl))
    have c18 : ∀ j, lq_c 18 j := fun j => Or.inr (Or.inl rfl)
    have m01 : nt_I M1 (pl 0) 1 = nI t := (o1 0 1 c01 (by decide) (by decide)).trans h01
    have m02 : nt_I M1 (pl 0) 2 = nI n := (o1 0 2 c02 (by decide) (by decide)).trans h02
    have m8 : ∀ j, nt_I M1 (pl 8) j = nt_I M (pl 18) j := fun j => (o1 8 j (c8 j) (by decide) (by decide)).trans (h8 j)
    have m18 : ∀ j, nt_I M1 (pl 18) j = nt_I M (pl 18) j := fun j => o1 18 j (c18 j) (by decide) (by decide)
    have v16 := ly_vI hB1
    rcases mg_rule (J := nt_I M1) (hP0 m01 m8) hO hK hK2 hby m02 hn e2 with ⟨n6, _⟩ | ⟨n6, r', J2, cl', cc', h3, hw, w1, fr, hX⟩
    · omega
    · have h30 := h3
      obtain ⟨ra, cl1, cc1, ca, cb⟩ := h3
      have er := lb_cs_det k0 0 _ r r' ra hcs ca.1 (lb_th_up (fun z1 ⟨k, q⟩ => ⟨k, mg_c2_lb _ _ _ _ _ _ _ _ q⟩) cb)
      subst er
      have fo : ∀ g, g < 66 → g ≠ 0 → g ≠ 1 → g ≠ 10 → g ≠ 9 → g ≠ 2 → g ≠ 3 → J2 (pl g) = nt_I M1 (pl g) := fun g hg a1 a2 a3 a4 a5 a6 => fr (pl g) (ne g 0 hg (by omega) a1) (ne g 1 hg (by omega) a2) (ne g 10 hg (by omega) a3) (ne g 9 hg (by omega) a4) (ne g 2 hg (by omega) a5) (ne g 3 hg (by omega) a6)
      have fin : ∀ n', n' ≤ 6 → nt_I M1 (pl 16) 4 = nI n' → J2 (pl 0) 2 = nI n' → M2 = me_w M1 J2 → lq_E pl M2 := by
        intro n' hn' q16 q02 eM2
        have i2 : nt_I M2 = J2 := by rw [eM2]; rfl
        refine ⟨0, n', by omega, hn', ?_, ?_, fun j => ?_, fun j => ?_, ?_, ?_⟩
        · rw [i2, fo 17 (by omega) (by decide) (by decide) (by decide) (by decide) (by decide) (by decide)]
          exact q17
        · rw [i2]
          exact w1
        · rw [i2, fo 8 (by omega) (by decide) (by decide) (by decide) (by decide) (by decide) (by decide), fo 18 (by omega) (by decide) (by decide) (by decide) (by decide) (by decide) (by decide), m8 j, m18 j]
        · rw [i2, fo 18 (by omega) (by decide) (by decide) (by decide) (by decide) (by decide) (by decide), m18 j]
          exact hb j
        · rw [i2, fo 16 (by omega) (by decide) (by decide) (by decide) (by decide) (by decide) (by decide)]
          exact q16
        · rw [i2]
          exact q02
      have pn := hS.1.1
      have p66 := hS.1.2.2.2
      have reg1 : ∀ g, g < 66 → g ≠ 17 → g ≠ 16 → g ≠ 19 → g ≠ 21 → g ≠ 22 → nt_I M1 (pl g) = nt_I M (pl g) := fun g hg a1 a2 a3 a4 a5 => by
        funext j
        rw [qo (pl g) j (hp g hg) (ne g 17 hg (by omega) a1) (ne g 16 hg (by omega) a2), old g hg a3 a4 a5]
      have reg : ∀ g, g < 66 → g ≠ 17 → g ≠ 16 → g ≠ 19 → g ≠ 21 → g ≠ 22 → g ≠ 0 → g ≠ 1 → g ≠ 10 → g ≠ 9 → g ≠ 2 → g ≠ 3 → J2 (pl g) = nt_I M (pl g) := fun g hg a1 a2 a3 a4 a5 b1 b2 b3 b4 b5 b6 => (fo g hg b1 b2 b3 b4 b5 b6).trans (reg1 g hg a1 a2 a3 a4 a5)
      have o66 : ∀ a, 66 ≤ a → ∀ g, g < 66 → a ≠ pl g := fun a ha g hg e => by have := pn g hg; omega
      have out2 : ∀ a, 66 ≤ a → J2 a = nt_I M1 a := fun a ha => fr a (o66 a ha 0 (by omega)) (o66 a ha 1 (by omega)) (o66 a ha 10 (by omega)) (o66 a ha 9 (by omega)) (o66 a ha 2 (by omega)) (o66 a ha 3 (by omega))
      have out : ∀ a, 66 ≤ a → a < nt_n M → J2 a = nt_I M a := fun a ha hn => by
        rw [out2 a ha]
        funext j
        rw [qo a j hn (o66 a ha 17 (by omega)) (o66 a ha 16 (by omega)), iR, lc_Qf hQ a (o66 a ha 19 (by omega)) (o66 a ha 21 (by omega)) (o66 a ha 22 (by omega))]
      have now2 : zz_R (fun i => pl (31 + i)) J2 (J2 (pl 4)) := by
        rw [reg 4 (by omega) (by decide) (by decide) (by decide) (by decide) (by decide) (by decide) (by decide) (by decide) (by decide) (by decide) (by decide)]
        exact zz_Rag (fun i hi => reg (31 + i) (by omega) (by omega) (by omega) (by omega) (by omega) (by omega) (by omega) (by omega) (by omega) (by omega) (by omega) (by omega)) hZ.1
      have img2 : ∀ k, k < 4 → ∀ a, nt_R M1 (pl 65) k = some a → (66 ≤ a ∧ a + 17 ≤ nt_n M1) ∧ zz_R (fun i => a + i) J2 (zim J2 (pl 14) k) := fun k hk a ha => by
        rw [qr k] at ha
        obtain ⟨h1, h2⟩ := hZ.2.1 k hk a ha
        refine ⟨⟨h1.1, by omega⟩, zz_Rag (fun i hi => out _ (by omega) (by omega)) ?_⟩
        unfold zim
        rw [reg 14 (by omega) (by decide) (by decide) (by decide) (by decide) (by decide) (by decide) (by decide) (by decide) (by decide) (by decide) (by decide)]
        exact h2
      have eS := reg1 1 (by omega) (by decide) (by decide) (by decide) (by decide) (by decide)
      have eC := reg1 2 (by omega) (by decide) (by decide) (by decide) (by decide) (by decide)
      have eD := reg1 3 (by omega) (by decide) (by decide) (by decide) (by decide) (by decide)
      have oldr : ∀ u' b', u' < 6 → nt_R M (pl 23) u' = some b' → nt_l M1 (b' + 1) = nt_l M (b' + 1) → (66 ≤ b' ∧ b' + 2 ≤ nt_n M1 ∧ u' < n) ∧ zRQ pl (b' + 1) (nt_l M1 (b' + 1)) u' J2 J2 := fun u' b' hu hb hl => by
        obtain ⟨⟨h1, h2, h3⟩, h4⟩ := hZ.2.2 u' b' hu hb
        rw [h16, nI_toInt (by omega)] at h3
        refine ⟨⟨h1, by omega, by omega⟩, ?_⟩
        rw [hl]
        refine zRQ_ag2 h4 (out _ (by omega) (by omega)) (fun j hj => ?_) (fun j hj => ?_) ?_
        · rw [hX.1 _ (by omega), eS]
        · rw [hX.2.1 _ (by omega), eC]
        · rw [hX.2.2.1 _ (by omega), eD]
      have m16 : ∀ q, nt_I M1 (pl 16) 4 = nI q → q ≤ 6 → (J2 (pl 16) 4).toInt = q := fun q h hq => by
        rw [fo 16 (by omega) (by decide) (by decide) (by decide) (by decide) (by decide) (by decide), h, nI_toInt (by omega)]
      rcases hw with ⟨hrc, e, w2⟩ | ⟨hrc, e, w2⟩ <;> rcases hx with ⟨hx0, ey, ev, q23, ql⟩ | ⟨hx0, ev, u, eu, ey, sz, b, hsz, s21, b66, bn, q23, ql, qc, qld⟩
      · obtain ⟨ey2, eM2⟩ := lq_out e
        have h164 : nt_I M1 (pl 16) 4 = nI n := Int32.toInt_inj.mp (by rw [v16, ev, vn, nI_toInt (by omega)])
        refine ⟨by rw [ey, ey2, ex], fin n hn h164 w2 eM2, ?_⟩
        subst eM2
        refine ⟨now2, img2, fun u' b' hu' hb' => ?_⟩
        have hb' : nt_R M1 (pl 23) u' = some b' := hb'
        rw [q23] at hb'
        obtain ⟨⟨x1, x2, x3⟩, x4⟩ := oldr u' b' hu' hb' (ql _)
        refine ⟨⟨x1, x2, ?_⟩, x4⟩
        show (u' : Int) < (J2 (pl 16) 4).toInt
        rw [m16 n h164 hn]
        omega
      · rw [ex] at hx0
        exact absurd hx0 hrc
      · rw [ex] at hx0
        exact absurd hrc hx0
      · obtain ⟨ey2, eM2⟩ := lq_out e
        have eun : u = n := by omega
        subst eun
        have h164 : nt_I M1 (pl 16) 4 = nI (u + 1) := Int32.toInt_inj.mp (by rw [v16, ev, vn, nI_toInt (by omega)]; omega)
        refine ⟨by rw [ey, ey2], fin (u + 1) (by omega) h164 w2 eM2, ?_⟩
        subst eM2
        obtain ⟨zf, erz⟩ : ∃ zf, r = .inr zf := by
          cases r with
          | inl c => exact absurd hrc hQ.1
          | inr z => exact ⟨z, rfl⟩
        subst erz
        obtain ⟨x1, x2, x3, x4⟩ := hX.2.2.2 zf rfl
        obtain ⟨_, _, y3, _, y5, _, y7, _⟩ := hQ.1
        have esz : zf.2.2.1.1 = sz := by
          have : nI sz = nI zf.2.2.1.1 := by rw [← s21, iR]; exact y3
          have := congrArg Int32.toInt this
          rw [nI_toInt (by omega), nI_toInt (by omega)] at this
          omega
        refine ⟨now2, img2, fun u' b' hu' hb' => ?_⟩
        have hb' : nt_R M1 (pl 23) u' = some b' := hb'
        rw [q23] at hb'
        by_cases eu' : u' = u
        · rw [if_pos eu'] at hb'
          have eb := Option.some.inj hb'
          subst eb
          subst eu'
          refine ⟨⟨b66, ?_, ?_⟩, ?_, ?_, hu', fun j => J2 (b + 1) j, fun j => J2 (pl 1) (400 * u' + j), fun j => cl' (48 * u' + j), cc', x4, fun _ _ => rfl, fun _ _ => rfl, fun j _ => x2 _, ?_, ?_⟩
          · obtain ⟨_, _, T, _, hT⟩ := hS1
            obtain ⟨b2, c1, _, c2, _⟩ := hT u' (by omega)
            rw [q23, if_pos rfl] at c1
            have c1 := Option.some.inj c1
            show b + 2 ≤ nt_n M1
            omega
          · show (u' : Int) < (J2 (pl 16) 4).toInt
            rw [m16 _ h164 (by omega)]
            omega
          · exact o66 _ (by omega) 25 (by omega)
          · show nt_l M1 (b + 1) ≤ 400
            omega
          · show (J2 (pl 3) u').toInt = _
            rw [x3, nI_toInt (by omega)]
          · show zRu _ _ _ _ (nt_l M1 (b + 1))
            rw [ql, ← esz]
            refine zIv_ru2 ht hcs h30 (fun j hj => ?_) (fun j hj => x1 j hj)
            rw [out2 _ (by omega), qc j (by omega), iR]
            exact y5 j hj
        · rw [if_neg eu'] at hb'
          have hb2 := (hZ.2.2 u' b' hu' hb').1
          obtain ⟨⟨x1, x2, x3⟩, x4⟩ := oldr u' b' hu' hb' (qld _ (by omega))
          refine ⟨⟨x1, x2, ?_⟩, x4⟩
          show (u' : Int) < (J2 (pl 16) 4).toInt
          rw [m16 _ h164 (by omega)]
          omega
end
section
/-! a yard read by both, everything kept -/
def zz_oy (g : Nat) : Bool := !(Nat.beq g 17 || (Nat.beq g 19 || (Nat.ble 48 g && Nat.blt g 65)))
def zz_ov (g : Nat) : Bool := !(Nat.beq g 0 || (Nat.beq g 4 || (Nat.beq g 10 || (Nat.beq g 11 || (Nat.beq g 12 || Nat.beq g 13)))))
theorem zz_yardT {X : nt_X} {pl : Nat → Nat} {v : Nat → Int} {M : nt_M} {o : Option Value × nt_M} (hB : ly_B pl v M) (k : nt_ev X 99 104 [.ref (pl 16)] M o) : zz_T zz_oy pl M o.2 := zz_gen (vs := [.ref (pl 16)]) (ec := []) (r := v) (ko_w_n_yard X) rfl (by decide +kernel) (by decide) hB (fun _ _ => rfl) ⟨rfl, trivial⟩ (fun q hq => by cases hq) (ly_ob hB) ly_oc0 k
theorem zz_yardV {X : nt_X} {pl : Nat → Nat} {v : Nat → Int} {M : nt_M} {o : Option Value × nt_M} (hB : ly_B pl v M) (k : nt_ev X 99 166 [.ref (pl 0)] M o) : zz_T zz_ov pl M o.2 := zz_gen (vs := [.ref (pl 0)]) (ec := []) (r := v) (ko_w_yard X) rfl (by decide +kernel) (by decide) hB (fun _ _ => rfl) ⟨rfl, trivial⟩ (fun q hq => by cases hq) (ly_ob hB) ly_oc0 k
theorem zz_sgI {pl : Nat → Nat} {M : nt_M} (h : zz_I pl M) : zz_I (fun g => pl (ly_sg g)) M := by
  refine ⟨fun k hk a ha => ?_, fun u b hu hb => ?_⟩
  · exact h.1 k hk a ha
  · obtain ⟨h1, h2⟩ := h.2 u b hu hb
    refine ⟨h1, ?_⟩
    obtain ⟨a, b, c, d⟩ := h2
    exact ⟨a, b, c, d⟩
theorem zz_yard2 {X : nt_X} {pl pl' : Nat → Nat} {v mk xi : Nat → Int} {rc : Int} {M M1 M2 : nt_M} {y1 y2 : Int32} {t : Nat} (hB : ly_B pl v M) (hS : ly_S pl mk xi rc M) (ht : t ≤ 400) (h17 : nt_I M (pl 17) 1 = nI t) (h01 : nt_I M (pl 0) 1 = nI t) (h8 : ∀ j, nt_I M (pl 8) j = nt_I M (pl 18) j) (hB1 : ly_B pl' v M1) (f1 : ly_fr 66 pl M M1) (hB2 : ly_B pl' v M2) (f2 : ly_fr 66 pl' M1 M2) (hp : pl' = pl ∨ pl' = fun g => pl (ly_sg g)) (e1 : nt_ev X 99 104 [.ref (pl 16)] M (some (.int y1), M1)) (e2 : nt_ev X 99 166 [.ref (pl' 0)] M1 (some (.int y2), M2)) (hZ : zz_E pl M) : y1 = y2 ∧ zz_E pl' M2 := by
  have ne := zz_ne hB
  have T1 := zz_yardT hB e1
  have T2 := zz_yardV hB1 e2
  dsimp only at T1 T2
  have s0 : pl' 0 = pl 0 := by rcases hp with rfl | rfl <;> rfl
  have s8 : pl' 8 = pl 8 := by rcases hp with rfl | rfl <;> rfl
  have s4 : pl' 4 = pl 4 := by rcases hp with rfl | rfl <;> rfl
  have s16 : pl' 16 = pl 16 := by rcases hp with rfl | rfl <;> rfl
  have lo : ∀ g, g < 31 → pl' g = pl g := by
    intro g hg
    rcases hp with rfl | rfl
    · rfl
    · show pl (ly_sg g) = pl g
      unfold ly_sg
      rw [if_neg (by omega), if_neg (by omega)]
  have s65 : pl' 65 = pl 65 := by rcases hp with rfl | rfl <;> rfl
  obtain ⟨n1, r1, q1, w1⟩ := lq_yardA hB ht h17 e1
  obtain ⟨r2, ⟨n2, q2⟩, w2⟩ := lq_yardB (f := nt_I M (pl 18)) hB1 ht (by rw [s0, T1 0 (by omega) rfl]; exact h01) (fun j => by rw [s8, T1 8 (by omega) rfl]; exact h8 j) e2
  have er := lb_ya_det _ _ _ _ _ _ q1 q2
  subst er
  have r7 : nt_R M1 (pl 16) 7 = some (pl' 31) := by
    have := ly_ref (g := 16) (j := 7) (k := 31) hB1 (List.mem_of_getElem? (i := 6) rfl)
    rw [s16] at this
    exact this
  have I2 : zz_I pl' M2 := by
    have i1 : zz_I pl M1 := zz_Ifr hS f1 (fun g hg => T1 g (by omega) (by rcases hg with rfl | rfl | rfl | rfl | rfl <;> rfl)) hZ.2
    have i1' : zz_I pl' M1 := by
      rcases hp with rfl | rfl
      · exact i1
      · exact zz_sgI i1
    have hS1 : ∀ g, g < 66 → pl' g < 66 := fun g hg => by
      rcases hp with rfl | rfl
      · exact hS.1.1 g hg
      · exact hS.1.1 _ (ly_sg_lt hg)
    exact zz_Ik f2.1.1 f2.1.2.2.2 (fun k => f2.2.2 65 k (Or.inr rfl)) (fun k => f2.2.2 23 k (Or.inl rfl)) (fun g hg => T2 g (by omega) (by rcases hg with rfl | rfl | rfl | rfl | rfl <;> rfl)) (fun a ha => funext (f2.2.1 a (fun g hg e => by have := hS1 g hg; omega)).1) i1'
  have v31 : ∀ i, i < 17 → nt_I M2 (pl' (31 + i)) = nt_I M1 (pl' (31 + i)) := fun i hi => T2 _ (by omega) (by
    rcases (by omega : i = 0 ∨ i = 1 ∨ i = 2 ∨ i = 3 ∨ i = 4 ∨ i = 5 ∨ i = 6 ∨ i = 7 ∨ i = 8 ∨ i = 9 ∨ i = 10 ∨ i = 11 ∨ i = 12 ∨ i = 13 ∨ i = 14 ∨ i = 15 ∨ i = 16) with rfl | rfl | rfl | rfl | rfl | rfl | rfl | rfl | rfl | rfl | rfl | rfl | rfl | rfl | rfl | rfl | rfl <;> rfl)
  rcases w1 with ⟨c, ec, _, ey, e7⟩ | ⟨u, eu, ey, e7, hub, k0, D, hyC, JY, hyR, eI⟩ <;> rcases w2 with ⟨c', ec', ey', e4⟩ | ⟨u', eu', ey', hub', k0', D', hyC', hR⟩
  · rw [ec] at ec'
    cases ec'
    rw [e7] at r7
    have e31 : pl' 31 = pl 31 := (Option.some.inj r7).symm
    have ep : pl' = pl := by
      rcases hp with rfl | rfl
      · rfl
      · exact absurd e31 (ne 48 31 (by omega) (by omega) (by decide))
    refine ⟨by rw [ey, ey'], ?_, I2⟩
    rw [show nt_I M2 (pl' 4) = nt_I M1 (pl' 4) from funext e4, s4, T1 4 (by omega) rfl]
    refine zz_Rag (fun i hi => ?_) (q := fun i => pl' (31 + i)) (J := nt_I M) ?_
    · rw [v31 i hi, ep]
      exact T1 _ (by omega) (by
        rcases (by omega : i = 0 ∨ i = 1 ∨ i = 2 ∨ i = 3 ∨ i = 4 ∨ i = 5 ∨ i = 6 ∨ i = 7 ∨ i = 8 ∨ i = 9 ∨ i = 10 ∨ i = 11 ∨ i = 12 ∨ i = 13 ∨ i = 14 ∨ i = 15 ∨ i = 16) with rfl | rfl | rfl | rfl | rfl | rfl | rfl | rfl | rfl | rfl | rfl | rfl | rfl | rfl | rfl | rfl | rfl <;> rfl)
    · rw [ep]
      exact hZ.1
  · rw [ec] at eu'
    cases eu'
  · rw [eu] at ec'
    cases ec'
  · rw [eu] at eu'
    cases eu'
    rw [e7] at r7
    have e31 : pl' 31 = pl 48 := (Option.some.inj r7).symm
    have ep : pl' = fun g => pl (ly_sg g) := by
      rcases hp with rfl | rfl
      · exact absurd e31 (ne 31 48 (by omega) (by omega) (by decide))
      · rfl
    have eq : ∀ i, i < 17 → pl' (31 + i) = pl (48 + i) := fun i hi => by
      rw [ep]
      show pl (ly_sg (31 + i)) = _
      unfold ly_sg
      rw [if_pos (by omega), show 31 + i + 17 = 48 + i from by omega]
    obtain ⟨_, hk, hk1⟩ := lb_yaC2 k0 k0' 0 _ u u _ _ D D' (fun _ => ⟨rfl, rfl, rfl⟩) (fun c => absurd rfl c) (Nat.zero_le _) (Nat.zero_le _) yk_0 hyC hyC'
    refine ⟨by rw [ey, ey'], ?_, I2⟩
    have hq : zq (fun i => pl (48 + i)) := fun i j hi hj e => ne _ _ (by omega) (by omega) (by omega)
    have key := yy_R (q := fun i => pl (48 + i)) (x' := JY (pl 31) 6) hq hub hk1 ⟨hyR.1, fun i h5 h12 j => by
      show JY (pl (48 + (i - 3))) j = _
      rw [show 48 + (i - 3) = 45 + i from by omega]
      exact hyR.2 i h5 h12 j⟩ hk hR (zz_W hB2)
    rw [← eI] at key
    have key2 : zz_R (fun i => pl (48 + i)) (nt_I M2) (nt_I M2 (pl' 4)) := zz_Rag (fun i hi => by
      have := v31 i hi
      rw [eq i hi] at this
      exact this) key
    obtain ⟨⟨a1, a2⟩, a3⟩ := key2
    refine ⟨⟨fun j hj => ?_, ?_⟩, a3⟩
    · show nt_I M2 (pl' (31 + (zc j).1)) (zc j).2 = _
      rw [eq _ (zc_17 j (zv_lt hj))]
      exact a1 j hj
    · show nt_I M2 (pl' (31 + 0)) 1 = _
      rw [eq 0 (by omega)]
      exact a2
end
section
/-! a rule that is not there; images, the other side -/
/-! .days -/
def x110H (p : Nat → Nat) (v1 : Int32) (v2 : Int32) (J : Nat → Nat → Int32) : Int32 := if (J (p 31) 1) = 0 then (Int32.ofInt (-1))
  else (Int32.ofInt (-1))
theorem xt110H {X : nt_X} {d : Nat} {M : nt_M} {o : Option Value × nt_M} {p : Nat → Nat} {v1 : Int32} {v2 : Int32} {J : Nat → Nat → Int32} (hp : xs_P M p) (hn : xs_Q M (fun i => p (31 + i))) (hx : x111 p v1 J = Int32.ofInt 0) (k : nt_ev X d 110 [.ref (p 16), .int v1, .int v2] (me_w M J) o) : o = (some (.int (x110H p v1 v2 J)), me_w M J) := by
  have k : nt_rn X d 110 (0, [(0, .ref (p 16)), (1, .int v1), (2, .int v2)], [], me_w M J) o := k
  have k := ly_revb 1 (c' := (1, [(0, .ref (p 16)), (1, .int v1), (2, .int v2)], [.ref (p 16)], me_w M J)) rfl k
  have k := lz_get (a := (p 16)) (g := 1007) (M := me_w M J) (v := .ref (p 31)) rfl (nt_gfR rfl (hp.1 (16, 7, 31) (by decide))) k
  have k := lz_get (a := (p 31)) (g := 601) (M := me_w M J) (v := .int (J (p 31) 1)) rfl (congrArg Value.int (rfl)) k
  have k := ly_revb 1 (c' := (if (J (p 31) 1) = 0 then 44 else 10, [(0, .ref (p 16)), (1, .int v1), (2, .int v2)], [], me_w M J)) rfl k
  by_cases h7 : (J (p 31) 1) = 0
  · rw [if_pos h7] at k
    have k := ly_revb 1 (c' := (45, [(0, .ref (p 16)), (1, .int v1), (2, .int v2)], [.int (Int32.ofInt (-1))], me_w M J)) rfl k
    have k := lz_ri rfl (by decide) k
    rw [k, x110H, if_pos h7]
  · rw [if_neg h7] at k
    have k := ly_revb 2 (c' := (12, [(0, .ref (p 16)), (1, .int v1), (2, .int v2)], [.int v1, .ref (p 16)], me_w M J)) rfl k
    obtain ⟨d1, o1, ed, kc, k⟩ := lz_c (g := 111) (q := 1) (vs := [.ref (p 16), .int v1]) (rest := []) rfl rfl (by decide) (Or.inr (Or.inl ⟨_, rfl, rfl⟩)) rfl k
    have e1 := xt111 hp kc
    rw [hx] at e1
    subst e1
    have k : nt_rn X _ 110 (15, [(0, .ref (p 16)), (1, .int v1), (2, .int v2)], [.int (Int32.ofInt 0)], me_w M J) _ := k
    have k := ly_revb 1 (c' := (if (Int32.ofInt 0) = 0 then 44 else 18, [(0, .ref (p 16)), (1, .int v1), (2, .int v2)], [], me_w M J)) rfl k
    rw [if_pos (show (Int32.ofInt 0) = 0 from by decide)] at k
    have k := ly_revb 1 (c' := (45, [(0, .ref (p 16)), (1, .int v1), (2, .int v2)], [.int (Int32.ofInt (-1))], me_w M J)) rfl k
    have k := lz_ri rfl (by decide) k
    rw [k, x110H, if_neg h7]
/-! .ahead -/
def x123H (p : Nat → Nat) (v1 : Int32) (v2 : Int32) (v3 : Int32) (J : Nat → Nat → Int32) : Int32 := if (J (p 31) 1) = 0 then (Int32.ofInt (-1))
  else (Int32.ofInt (-1))
theorem xt123H {X : nt_X} {d : Nat} {M : nt_M} {o : Option Value × nt_M} {p : Nat → Nat} {v1 : Int32} {v2 : Int32} {v3 : Int32} {J : Nat → Nat → Int32} (hp : xs_P M p) (hn : xs_Q M (fun i => p (31 + i))) (hx : x111 p v1 J = Int32.ofInt 0) (k : nt_ev X d 123 [.ref (p 16), .int v1, .int v2, .int v3] (me_w M J) o) : o = (some (.int (x123H p v1 v2 v3 J)), me_w M J) := by
  have k : nt_rn X d 123 (0, [(0, .ref (p 16)), (1, .int v1), (2, .int v2), (3, .int v3)], [], me_w M J) o := k
  have k := ly_revb 1 (c' := (1, [(0, .ref (p 16)), (1, .int v1), (2, .int v2), (3, .int v3)], [.ref (p 16)], me_w M J)) rfl k
  have k := lz_get (a := (p 16)) (g := 1007) (M := me_w M J) (v := .ref (p 31)) rfl (nt_gfR rfl (hp.1 (16, 7, 31) (by decide))) k
  have k := lz_get (a := (p 31)) (g := 601) (M := me_w M J) (v := .int (J (p 31) 1)) rfl (congrArg Value.int (rfl)) k
  have k := ly_revb 1 (c' := (if (J (p 31) 1) = 0 then 37 else 10, [(0, .ref (p 16)), (1, .int v1), (2, .int v2), (3, .int v3)], [], me_w M J)) rfl k
  by_cases h7 : (J (p 31) 1) = 0
  · rw [if_pos h7] at k
    have k := ly_revb 1 (c' := (38, [(0, .ref (p 16)), (1, .int v1), (2, .int v2), (3, .int v3)], [.int (Int32.ofInt (-1))], me_w M J)) rfl k
    have k := lz_ri rfl (by decide) k
    rw [k, x123H, if_pos h7]
  · rw [if_neg h7] at k
    have k := ly_revb 2 (c' := (12, [(0, .ref (p 16)), (1, .int v1), (2, .int v2), (3, .int v3)], [.int v1, .ref (p 16)], me_w M J)) rfl k
    obtain ⟨d1, o1, ed, kc, k⟩ := lz_c (g := 111) (q := 1) (vs := [.ref (p 16), .int v1]) (rest := []) rfl rfl (by decide) (Or.inr (Or.inl ⟨_, rfl, rfl⟩)) rfl k
    have e1 := xt111 hp kc
    rw [hx] at e1
    subst e1
    have k : nt_rn X _ 123 (15, [(0, .ref (p 16)), (1, .int v1), (2, .int v2), (3, .int v3)], [.int (Int32.ofInt 0)], me_w M J) _ := k
    have k := ly_revb 1 (c' := (if (Int32.ofInt 0) = 0 then 37 else 18, [(0, .ref (p 16)), (1, .int v1), (2, .int v2), (3, .int v3)], [], me_w M J)) rfl k
    rw [if_pos (show (Int32.ofInt 0) = 0 from by decide)] at k
    have k := ly_revb 1 (c' := (38, [(0, .ref (p 16)), (1, .int v1), (2, .int v2), (3, .int v3)], [.int (Int32.ofInt (-1))], me_w M J)) rfl k
    have k := lz_ri rfl (by decide) k
    rw [k, x123H, if_neg h7]
/-! .years -/
def x125H (p : Nat → Nat) (v1 : Int32) (v2 : Int32) (v3 : Int32) (v4 : Int32) (v5 : Int32) (J : Nat → Nat → Int32) : Int32 := if (J (p 31) 1) = 0 then (Int32.ofInt (-1))
  else (Int32.ofInt (-1))
theorem xt125H {X : nt_X} {d : Nat} {M : nt_M} {o : Option Value × nt_M} {p : Nat → Nat} {v1 : Int32} {v2 : Int32} {v3 : Int32} {v4 : Int32} {v5 : Int32} {J : Nat → Nat → Int32} (hp : xs_P M p) (hn : xs_Q M (fun i => p (31 + i))) (hx : x111 p v1 J = Int32.ofInt 0) (k : nt_ev X d 125 [.ref (p 16), .int v1, .int v2, .int v3, .int v4, .int v5] (me_w M J) o) : o = (some (.int (x125H p v1 v2 v3 v4 v5 J)), me_w M J) := by
  have k : nt_rn X d 125 (0, [(0, .ref (p 16)), (1, .int v1), (2, .int v2), (3, .int v3), (4, .int v4), (5, .int v5)], [], me_w M J) o := k
  have k := ly_revb 1 (c' := (1, [(0, .ref (p 16)), (1, .int v1), (2, .int v2), (3, .int v3), (4, .int v4), (5, .int v5)], [.ref (p 16)], me_w M J)) rfl k
  have k := lz_get (a := (p 16)) (g := 1007) (M := me_w M J) (v := .ref (p 31)) rfl (nt_gfR rfl (hp.1 (16, 7, 31) (by decide))) k
  have k := lz_get (a := (p 31)) (g := 601) (M := me_w M J) (v := .int (J (p 31) 1)) rfl (congrArg Value.int (rfl)) k
  have k := ly_revb 1 (c' := (if (J (p 31) 1) = 0 then 40 else 10, [(0, .ref (p 16)), (1, .int v1), (2, .int v2), (3, .int v3), (4, .int v4), (5, .int v5)], [], me_w M J)) rfl k
  by_cases h7 : (J (p 31) 1) = 0
  · rw [if_pos h7] at k
    have k := ly_revb 1 (c' := (41, [(0, .ref (p 16)), (1, .int v1), (2, .int v2), (3, .int v3), (4, .int v4), (5, .int v5)], [.int (Int32.ofInt (-1))], me_w M J)) rfl k
    have k := lz_ri rfl (by decide) k
    rw [k, x125H, if_pos h7]
  · rw [if_neg h7] at k
    have k := ly_revb 2 (c' := (12, [(0, .ref (p 16)), (1, .int v1), (2, .int v2), (3, .int v3), (4, .int v4), (5, .int v5)], [.int v1, .ref (p 16)], me_w M J)) rfl k
    obtain ⟨d1, o1, ed, kc, k⟩ := lz_c (g := 111) (q := 1) (vs := [.ref (p 16), .int v1]) (rest := []) rfl rfl (by decide) (Or.inr (Or.inl ⟨_, rfl, rfl⟩)) rfl k
    have e1 := xt111 hp kc
    rw [hx] at e1
    subst e1
    have k : nt_rn X _ 125 (15, [(0, .ref (p 16)), (1, .int v1), (2, .int v2), (3, .int v3), (4, .int v4), (5, .int v5)], [.int (Int32.ofInt 0)], me_w M J) _ := k
    have k := ly_revb 1 (c' := (if (Int32.ofInt 0) = 0 then 40 else 18, [(0, .ref (p 16)), (1, .int v1), (2, .int v2), (3, .int v3), (4, .int v4), (5, .int v5)], [], me_w M J)) rfl k
    rw [if_pos (show (Int32.ofInt 0) = 0 from by decide)] at k
    have k := ly_revb 1 (c' := (41, [(0, .ref (p 16)), (1, .int v1), (2, .int v2), (3, .int v3), (4, .int v4), (5, .int v5)], [.int (Int32.ofInt (-1))], me_w M J)) rfl k
    have k := lz_ri rfl (by decide) k
    rw [k, x125H, if_neg h7]
/-! Model.image -/
def x234_23 (p : Nat → Nat) (v1 : Int32) : Nat → Int32 → (Nat → Nat → Int32) → Int32 × (Nat → Nat → Int32)
  | 0, v2, J => (J (p 4) 4, J)
  | c + 1, v2, J => if (Int32.ofInt 212) ≤ v2 then (J (p 4) 4, J)
    else (x234_23 p v1 c (v2 + (Int32.ofInt 1)) (nt_u J (p 14) ((((Int32.ofInt 212) * v1) + v2).toNatClampNeg) (J (p 4) v2.toNatClampNeg)))
theorem xt234_23 {X : nt_X} {d : Nat} {M : nt_M} {o : Option Value × nt_M} {p : Nat → Nat} {v1 : Int32} (hp : xs_P M p) : ∀ (c : Nat) (v2 : Int32) (J : Nat → Nat → Int32), (Int32.ofInt 212).toInt - v2.toInt ≤ c → nt_rn X d 234 (23, [(0, .ref (p 0)), (1, .int v1), (2, .int v2)], [], me_w M J) o → o = (some (.int ((x234_23 p v1 c v2 J).1)), me_w M ((x234_23 p v1 c v2 J).2)) := by
  intro c
  induction c with
  | zero =>
    intro v2 J hc k
    have k := ly_revb 3 (c' := (if (Int32.ofInt 212) ≤ v2 then 54 else 30, [(0, .ref (p 0)), (1, .int v1), (2, .int v2)], [], me_w M J)) rfl k
    have h27 : (Int32.ofInt 212) ≤ v2 := lx_end hc
    rw [if_pos h27] at k
    have k := ly_revb 1 (c' := (55, [(0, .ref (p 0)), (1, .int v1), (2, .int v2)], [.ref (p 0)], me_w M J)) rfl k
    have k := lz_get (a := (p 0)) (g := 1127) (M := me_w M J) (v := .ref (p 4)) rfl (nt_gfR rfl (hp.1 (0, 27, 4) (by decide))) k
    have k := ly_revb 1 (c' := (59, [(0, .ref (p 0)), (1, .int v1), (2, .int v2)], [.int (Int32.ofInt 4), .ref (p 4)], me_w M J)) rfl k
    have k := mx_iald (v := J (p 4) 4) rfl (hp.2.2.1 4 (by omega)) ((congrArg (J (p 4)) (show (Int32.ofInt 4).toNatClampNeg = 4 from rfl)).trans (rfl)) k
    have k := lz_ri rfl (by decide) k
    rw [k, x234_23]
  | succ c ih =>
    intro v2 J hc k
    have k := ly_revb 3 (c' := (if (Int32.ofInt 212) ≤ v2 then 54 else 30, [(0, .ref (p 0)), (1, .int v1), (2, .int v2)], [], me_w M J)) rfl k
    by_cases h27 : (Int32.ofInt 212) ≤ v2
    · rw [if_pos h27] at k
      have k := ly_revb 1 (c' := (55, [(0, .ref (p 0)), (1, .int v1), (2, .int v2)], [.ref (p 0)], me_w M J)) rfl k
      have k := lz_get (a := (p 0)) (g := 1127) (M := me_w M J) (v := .ref (p 4)) rfl (nt_gfR rfl (hp.1 (0, 27, 4) (by decide))) k
      have k := ly_revb 1 (c' := (59, [(0, .ref (p 0)), (1, .int v1), (2, .int v2)], [.int (Int32.ofInt 4), .ref (p 4)], me_w M J)) rfl k
      have k := mx_iald (v := J (p 4) 4) rfl (hp.2.2.1 4 (by omega)) ((congrArg (J (p 4)) (show (Int32.ofInt 4).toNatClampNeg = 4 from rfl)).trans (rfl)) k
      have k := lz_ri rfl (by decide) k
      rw [k, x234_23, if_pos h27]
    · rw [if_neg h27] at k
      have k := ly_revb 1 (c' := (31, [(0, .ref (p 0)), (1, .int v1), (2, .int v2)], [.ref (p 0)], me_w M J)) rfl k
      have k := lz_get (a := (p 0)) (g := 1129) (M := me_w M J) (v := .ref (p 14)) rfl (nt_gfR rfl (hp.1 (0, 29, 14) (by decide))) k
      have k := ly_revb 6 (c' := (42, [(0, .ref (p 0)), (1, .int v1), (2, .int v2)], [.ref (p 0), .int (((Int32.ofInt 212) * v1) + v2), .ref (p 14)], me_w M J)) rfl k
      have k := lz_get (a := (p 0)) (g := 1127) (M := me_w M J) (v := .ref (p 4)) rfl (nt_gfR rfl (hp.1 (0, 27, 4) (by decide))) k
      have k := ly_revb 1 (c' := (46, [(0, .ref (p 0)), (1, .int v1), (2, .int v2)], [.int v2, .ref (p 4), .int (((Int32.ofInt 212) * v1) + v2), .ref (p 14)], me_w M J)) rfl k
      have k := mx_iald (v := J (p 4) v2.toNatClampNeg) rfl (hp.2.2.1 4 (by omega)) (rfl) k
      have k := mx_iast (q := (((Int32.ofInt 212) * v1) + v2).toNatClampNeg) rfl rfl k
      have k : nt_rn X _ 234 (48, [(0, .ref (p 0)), (1, .int v1), (2, .int v2)], [], me_w M (nt_u J (p 14) ((((Int32.ofInt 212) * v1) + v2).toNatClampNeg) (J (p 4) v2.toNatClampNeg))) _ := k
      have k := ly_revb 2 (c' := (23, [(2, .int (v2 + (Int32.ofInt 1))), (0, .ref (p 0)), (1, .int v1)], [], me_w M (nt_u J (p 14) ((((Int32.ofInt 212) * v1) + v2).toNatClampNeg) (J (p 4) v2.toNatClampNeg)))) rfl k
      have k := nt_rn_w (a := [(2, .int (v2 + (Int32.ofInt 1))), (0, .ref (p 0)), (1, .int v1)]) (b := [(0, .ref (p 0)), (1, .int v1), (2, .int (v2 + (Int32.ofInt 1)))]) ⟨rfl, rfl, rfl, trivial⟩ rfl k
      have k := ih (v2 + (Int32.ofInt 1)) (nt_u J (p 14) ((((Int32.ofInt 212) * v1) + v2).toNatClampNeg) (J (p 4) v2.toNatClampNeg)) (lx_dec h27 hc) k
      rw [k, x234_23, if_neg h27]
theorem x234_23_rule {p : Nat → Nat} {v1 : Int32} {I : Nat → Int32 → (Nat → Nat → Int32) → Prop} {Q : Int32 × (Nat → Nat → Int32) → Prop} (h0 : ∀ (v2 : Int32) (J : Nat → Nat → Int32), I 0 v2 J → Q (J (p 4) 4, J)) (h1 : ∀ (c : Nat) (v2 : Int32) (J : Nat → Nat → Int32), I (c + 1) v2 J →
    if (Int32.ofInt 212) ≤ v2 then (Q (J (p 4) 4, J))
    else (I c (v2 + (Int32.ofInt 1)) (nt_u J (p 14) ((((Int32.ofInt 212) * v1) + v2).toNatClampNeg) (J (p 4) v2.toNatClampNeg)))) : ∀ (c : Nat) (v2 : Int32) (J : Nat → Nat → Int32), I c v2 J → Q (x234_23 p v1 c v2 J) := by
  intro c
  induction c with
  | zero =>
    intro v2 J hi
    rw [x234_23]
    exact h0 v2 J hi
  | succ c ih =>
    intro v2 J hi
    have hi := h1 c v2 J hi
    rw [x234_23]
    by_cases h : (Int32.ofInt 212) ≤ v2
    · rw [if_pos h] at hi ⊢
      exact hi
    · rw [if_neg h] at hi ⊢
      exact ih _ _ hi
def x234 (p : Nat → Nat) (v1 : Int32) (J : Nat → Nat → Int32) : Int32 × (Nat → Nat → Int32) := if (x145 v1.toInt64 (Int64.ofNat 0) 3) = 0 then (Int32.ofInt (-1), J)
  else (x234_23 p v1 ((Int32.ofInt 212).toNatClampNeg) (Int32.ofInt 0) (nt_u J (p 15) v1.toNatClampNeg (vp_nar .boolean (Int32.ofInt 1))))
theorem xt234 {X : nt_X} {d : Nat} {M : nt_M} {o : Option Value × nt_M} {p : Nat → Nat} {v1 : Int32} {J : Nat → Nat → Int32} (hp : xs_P M p) (hk15 : nt_k M (p 15) = 15) (k : nt_ev X d 234 [.ref (p 0), .int v1] (me_w M J) o) : o = (some (.int ((x234 p v1 J).1)), me_w M ((x234 p v1 J).2)) := by
  have k : nt_rn X d 234 (0, [(0, .ref (p 0)), (1, .int v1)], [], me_w M J) o := k
  have k := ly_revb 4 (c' := (6, [(0, .ref (p 0)), (1, .int v1)], [.long 3, .long (Int64.ofNat 0), .long v1.toInt64], me_w M J)) rfl k
  obtain ⟨d1, o1, ed, kc, k⟩ := lz_c (g := 145) (q := 0) (vs := [.long v1.toInt64, .long (Int64.ofNat 0), .long 3]) (rest := []) rfl rfl (by decide) (Or.inl ⟨_, rfl, rfl⟩) rfl k
  have e1 := xt145  kc
  subst e1
  have k : nt_rn X _ 234 (9, [(0, .ref (p 0)), (1, .int v1)], [.int (x145 v1.toInt64 (Int64.ofNat 0) 3)], me_w M J) _ := k
  have k := ly_revb 1 (c' := (if (x145 v1.toInt64 (Int64.ofNat 0) 3) = 0 then 12 else 14, [(0, .ref (p 0)), (1, .int v1)], [], me_w M J)) rfl k
  by_cases h9 : (x145 v1.toInt64 (Int64.ofNat 0) 3) = 0
  · rw [if_pos h9] at k
    have k := ly_revb 1 (c' := (13, [(0, .ref (p 0)), (1, .int v1)], [.int (Int32.ofInt (-1))], me_w M J)) rfl k
    have k := lz_ri rfl (by decide) k
    rw [k, x234, if_pos h9]
  · rw [if_neg h9] at k
    have k := ly_revb 1 (c' := (15, [(0, .ref (p 0)), (1, .int v1)], [.ref (p 0)], me_w M J)) rfl k
    have k := lz_get (a := (p 0)) (g := 1130) (M := me_w M J) (v := .ref (p 15)) rfl (nt_gfR rfl (hp.1 (0, 30, 15) (by decide))) k
    have k := ly_revb 2 (c' := (20, [(0, .ref (p 0)), (1, .int v1)], [.int (Int32.ofInt 1), .int v1, .ref (p 15)], me_w M J)) rfl k
    have k := mx_bast (q := v1.toNatClampNeg) rfl hk15 rfl k
    have k : nt_rn X _ 234 (21, [(0, .ref (p 0)), (1, .int v1)], [], me_w M (nt_u J (p 15) v1.toNatClampNeg (vp_nar .boolean (Int32.ofInt 1)))) _ := k
    have k := ly_revb 2 (c' := (23, [(2, .int (Int32.ofInt 0)), (0, .ref (p 0)), (1, .int v1)], [], me_w M (nt_u J (p 15) v1.toNatClampNeg (vp_nar .boolean (Int32.ofInt 1))))) rfl k
    have k := nt_rn_w (a := [(2, .int (Int32.ofInt 0)), (0, .ref (p 0)), (1, .int v1)]) (b := [(0, .ref (p 0)), (1, .int v1), (2, .int (Int32.ofInt 0))]) ⟨rfl, rfl, rfl, trivial⟩ rfl k
    have k := xt234_23 hp  ((Int32.ofInt 212).toNatClampNeg) (Int32.ofInt 0) (nt_u J (p 15) v1.toNatClampNeg (vp_nar .boolean (Int32.ofInt 1))) (lx_beg (by decide)) k
    rw [k, x234, if_neg h9]
theorem x234_23_frJ {p : Nat → Nat} {v1 : Int32} {b : Nat} : ∀ (c : Nat) (v2 : Int32) (J : Nat → Nat → Int32), b ≠ p 14 → b ≠ p 15 → (x234_23 p v1 c v2 J).2 b = J b := by
  intro c
  induction c with
  | zero =>
    intro v2 J n0 n1
    rw [x234_23]
    all_goals first | (dsimp only; exact (show J b = J b from rfl)) | exact (show J b = J b from rfl)
  | succ c ih =>
    intro v2 J n0 n1
    rw [x234_23]
    by_cases h : (Int32.ofInt 212) ≤ v2
    · rw [if_pos h]
      all_goals first | (dsimp only; exact (show J b = J b from rfl)) | exact (show J b = J b from rfl)
    · rw [if_neg h]
      exact (ih _ _ n0 n1).trans (mu_o n0)
theorem x234_frJ {p : Nat → Nat} {v1 : Int32} {J : Nat → Nat → Int32} {b : Nat} (n0 : b ≠ p 14) (n1 : b ≠ p 15) : (x234 p v1 J).2 b = J b := by
  unfold x234
  by_cases h : (x145 v1.toInt64 (Int64.ofNat 0) 3) = 0
  · rw [if_pos h]
    all_goals first | (dsimp only; exact (show J b = J b from rfl)) | exact (show J b = J b from rfl)
  · rw [if_neg h]
    exact (x234_23_frJ _ _ _ n0 n1).trans (mu_o n1)
/-! Model.back -/
def x235_25 (p : Nat → Nat) (v1 : Int32) : Nat → Int32 → (Nat → Nat → Int32) → Int32 × (Nat → Nat → Int32)
  | 0, v2, J => (J (p 4) 4, J)
  | c + 1, v2, J => if (Int32.ofInt 212) ≤ v2 then (J (p 4) 4, J)
    else (x235_25 p v1 c (v2 + (Int32.ofInt 1)) (nt_u J (p 4) v2.toNatClampNeg (J (p 14) ((((Int32.ofInt 212) * v1) + v2).toNatClampNeg))))
theorem xt235_25 {X : nt_X} {d : Nat} {M : nt_M} {o : Option Value × nt_M} {p : Nat → Nat} {v1 : Int32} (hp : xs_P M p) : ∀ (c : Nat) (v2 : Int32) (J : Nat → Nat → Int32), (Int32.ofInt 212).toInt - v2.toInt ≤ c → nt_rn X d 235 (25, [(0, .ref (p 0)), (1, .int v1), (2, .int v2)], [], me_w M J) o → o = (some (.int ((x235_25 p v1 c v2 J).1)), me_w M ((x235_25 p v1 c v2 J).2)) := by
  intro c
  induction c with
  | zero =>
    intro v2 J hc k
    have k := ly_revb 3 (c' := (if (Int32.ofInt 212) ≤ v2 then 56 else 32, [(0, .ref (p 0)), (1, .int v1), (2, .int v2)], [], me_w M J)) rfl k
    have h29 : (Int32.ofInt 212) ≤ v2 := lx_end hc
    rw [if_pos h29] at k
    have k := ly_revb 1 (c' := (57, [(0, .ref (p 0)), (1, .int v1), (2, .int v2)], [.ref (p 0)], me_w M J)) rfl k
    have k := lz_get (a := (p 0)) (g := 1127) (M := me_w M J) (v := .ref (p 4)) rfl (nt_gfR rfl (hp.1 (0, 27, 4) (by decide))) k
    have k := ly_revb 1 (c' := (61, [(0, .ref (p 0)), (1, .int v1), (2, .int v2)], [.int (Int32.ofInt 4), .ref (p 4)], me_w M J)) rfl k
    have k := mx_iald (v := J (p 4) 4) rfl (hp.2.2.1 4 (by omega)) ((congrArg (J (p 4)) (show (Int32.ofInt 4).toNatClampNeg = 4 from rfl)).trans (rfl)) k
    have k := lz_ri rfl (by decide) k
    rw [k, x235_25]
  | succ c ih =>
    intro v2 J hc k
    have k := ly_revb 3 (c' := (if (Int32.ofInt 212) ≤ v2 then 56 else 32, [(0, .ref (p 0)), (1, .int v1), (2, .int v2)], [], me_w M J)) rfl k
    by_cases h29 : (Int32.ofInt 212) ≤ v2
    · rw [if_pos h29] at k
      have k := ly_revb 1 (c' := (57, [(0, .ref (p 0)), (1, .int v1), (2, .int v2)], [.ref (p 0)], me_w M J)) rfl k
      have k := lz_get (a := (p 0)) (g := 1127) (M := me_w M J) (v := .ref (p 4)) rfl (nt_gfR rfl (hp.1 (0, 27, 4) (by decide))) k
      have k := ly_revb 1 (c' := (61, [(0, .ref (p 0)), (1, .int v1), (2, .int v2)], [.int (Int32.ofInt 4), .ref (p 4)], me_w M J)) rfl k
      have k := mx_iald (v := J (p 4) 4) rfl (hp.2.2.1 4 (by omega)) ((congrArg (J (p 4)) (show (Int32.ofInt 4).toNatClampNeg = 4 from rfl)).trans (rfl)) k
      have k := lz_ri rfl (by decide) k
      rw [k, x235_25, if_pos h29]
    · rw [if_neg h29] at k
      have k := ly_revb 1 (c' := (33, [(0, .ref (p 0)), (1, .int v1), (2, .int v2)], [.ref (p 0)], me_w M J)) rfl k
      have k := lz_get (a := (p 0)) (g := 1127) (M := me_w M J) (v := .ref (p 4)) rfl (nt_gfR rfl (hp.1 (0, 27, 4) (by decide))) k
      have k := ly_revb 2 (c' := (38, [(0, .ref (p 0)), (1, .int v1), (2, .int v2)], [.ref (p 0), .int v2, .ref (p 4)], me_w M J)) rfl k
      have k := lz_get (a := (p 0)) (g := 1129) (M := me_w M J) (v := .ref (p 14)) rfl (nt_gfR rfl (hp.1 (0, 29, 14) (by decide))) k
      have k := ly_revb 5 (c' := (48, [(0, .ref (p 0)), (1, .int v1), (2, .int v2)], [.int (((Int32.ofInt 212) * v1) + v2), .ref (p 14), .int v2, .ref (p 4)], me_w M J)) rfl k
      have k := mx_iald (v := J (p 14) ((((Int32.ofInt 212) * v1) + v2).toNatClampNeg)) rfl (hp.2.2.1 14 (by omega)) (rfl) k
      have k := mx_iast (q := v2.toNatClampNeg) rfl rfl k
      have k : nt_rn X _ 235 (50, [(0, .ref (p 0)), (1, .int v1), (2, .int v2)], [], me_w M (nt_u J (p 4) v2.toNatClampNeg (J (p 14) ((((Int32.ofInt 212) * v1) + v2).toNatClampNeg)))) _ := k
      have k := ly_revb 2 (c' := (25, [(2, .int (v2 + (Int32.ofInt 1))), (0, .ref (p 0)), (1, .int v1)], [], me_w M (nt_u J (p 4) v2.toNatClampNeg (J (p 14) ((((Int32.ofInt 212) * v1) + v2).toNatClampNeg))))) rfl k
      have k := nt_rn_w (a := [(2, .int (v2 + (Int32.ofInt 1))), (0, .ref (p 0)), (1, .int v1)]) (b := [(0, .ref (p 0)), (1, .int v1), (2, .int (v2 + (Int32.ofInt 1)))]) ⟨rfl, rfl, rfl, trivial⟩ rfl k
      have k := ih (v2 + (Int32.ofInt 1)) (nt_u J (p 4) v2.toNatClampNeg (J (p 14) ((((Int32.ofInt 212) * v1) + v2).toNatClampNeg))) (lx_dec h29 hc) k
      rw [k, x235_25, if_neg h29]
theorem x235_25_rule {p : Nat → Nat} {v1 : Int32} {I : Nat → Int32 → (Nat → Nat → Int32) → Prop} {Q : Int32 × (Nat → Nat → Int32) → Prop} (h0 : ∀ (v2 : Int32) (J : Nat → Nat → Int32), I 0 v2 J → Q (J (p 4) 4, J)) (h1 : ∀ (c : Nat) (v2 : Int32) (J : Nat → Nat → Int32), I (c + 1) v2 J →
    if (Int32.ofInt 212) ≤ v2 then (Q (J (p 4) 4, J))
    else (I c (v2 + (Int32.ofInt 1)) (nt_u J (p 4) v2.toNatClampNeg (J (p 14) ((((Int32.ofInt 212) * v1) + v2).toNatClampNeg))))) : ∀ (c : Nat) (v2 : Int32) (J : Nat → Nat → Int32), I c v2 J → Q (x235_25 p v1 c v2 J) := by
  intro c
  induction c with
  | zero =>
    intro v2 J hi
    rw [x235_25]
    exact h0 v2 J hi
  | succ c ih =>
    intro v2 J hi
    have hi := h1 c v2 J hi
    rw [x235_25]
    by_cases h : (Int32.ofInt 212) ≤ v2
    · rw [if_pos h] at hi ⊢
      exact hi
    · rw [if_neg h] at hi ⊢
      exact ih _ _ hi
def x235 (p : Nat → Nat) (v1 : Int32) (J : Nat → Nat → Int32) : Int32 × (Nat → Nat → Int32) := if (x145 v1.toInt64 (Int64.ofNat 0) 3) = 0 then (Int32.ofInt (-1), J)
  else if (J (p 15) v1.toNatClampNeg) = 0 then (Int32.ofInt (-1), J)
    else (x235_25 p v1 ((Int32.ofInt 212).toNatClampNeg) (Int32.ofInt 0) J)
theorem xt235 {X : nt_X} {d : Nat} {M : nt_M} {o : Option Value × nt_M} {p : Nat → Nat} {v1 : Int32} {J : Nat → Nat → Int32} (hp : xs_P M p) (k : nt_ev X d 235 [.ref (p 0), .int v1] (me_w M J) o) : o = (some (.int ((x235 p v1 J).1)), me_w M ((x235 p v1 J).2)) := by
  have k : nt_rn X d 235 (0, [(0, .ref (p 0)), (1, .int v1)], [], me_w M J) o := k
  have k := ly_revb 4 (c' := (6, [(0, .ref (p 0)), (1, .int v1)], [.long 3, .long (Int64.ofNat 0), .long v1.toInt64], me_w M J)) rfl k
  obtain ⟨d1, o1, ed, kc, k⟩ := lz_c (g := 145) (q := 0) (vs := [.long v1.toInt64, .long (Int64.ofNat 0), .long 3]) (rest := []) rfl rfl (by decide) (Or.inl ⟨_, rfl, rfl⟩) rfl k
  have e1 := xt145  kc
  subst e1
  have k : nt_rn X _ 235 (9, [(0, .ref (p 0)), (1, .int v1)], [.int (x145 v1.toInt64 (Int64.ofNat 0) 3)], me_w M J) _ := k
  have k := ly_revb 1 (c' := (if (x145 v1.toInt64 (Int64.ofNat 0) 3) = 0 then 21 else 12, [(0, .ref (p 0)), (1, .int v1)], [], me_w M J)) rfl k
  by_cases h9 : (x145 v1.toInt64 (Int64.ofNat 0) 3) = 0
  · rw [if_pos h9] at k
    have k := ly_revb 1 (c' := (22, [(0, .ref (p 0)), (1, .int v1)], [.int (Int32.ofInt (-1))], me_w M J)) rfl k
    have k := lz_ri rfl (by decide) k
    rw [k, x235, if_pos h9]
  · rw [if_neg h9] at k
    have k := ly_revb 1 (c' := (13, [(0, .ref (p 0)), (1, .int v1)], [.ref (p 0)], me_w M J)) rfl k
    have k := lz_get (a := (p 0)) (g := 1130) (M := me_w M J) (v := .ref (p 15)) rfl (nt_gfR rfl (hp.1 (0, 30, 15) (by decide))) k
    have k := ly_revb 1 (c' := (17, [(0, .ref (p 0)), (1, .int v1)], [.int v1, .ref (p 15)], me_w M J)) rfl k
    have k := mx_bald (v := J (p 15) v1.toNatClampNeg) rfl (rfl) k
    have k := ly_revb 1 (c' := (if (J (p 15) v1.toNatClampNeg) = 0 then 21 else 23, [(0, .ref (p 0)), (1, .int v1)], [], me_w M J)) rfl k
    by_cases h18 : (J (p 15) v1.toNatClampNeg) = 0
    · rw [if_pos h18] at k
      have k := ly_revb 1 (c' := (22, [(0, .ref (p 0)), (1, .int v1)], [.int (Int32.ofInt (-1))], me_w M J)) rfl k
      have k := lz_ri rfl (by decide) k
      rw [k, x235, if_neg h9, if_pos h18]
    · rw [if_neg h18] at k
      have k := ly_revb 2 (c' := (25, [(2, .int (Int32.ofInt 0)), (0, .ref (p 0)), (1, .int v1)], [], me_w M J)) rfl k
      have k := nt_rn_w (a := [(2, .int (Int32.ofInt 0)), (0, .ref (p 0)), (1, .int v1)]) (b := [(0, .ref (p 0)), (1, .int v1), (2, .int (Int32.ofInt 0))]) ⟨rfl, rfl, rfl, trivial⟩ rfl k
      have k := xt235_25 hp  ((Int32.ofInt 212).toNatClampNeg) (Int32.ofInt 0) J (lx_beg (by decide)) k
      rw [k, x235, if_neg h9, if_neg h18]
theorem x235_25_frJ {p : Nat → Nat} {v1 : Int32} {b : Nat} : ∀ (c : Nat) (v2 : Int32) (J : Nat → Nat → Int32), b ≠ p 4 → (x235_25 p v1 c v2 J).2 b = J b := by
  intro c
  induction c with
  | zero =>
    intro v2 J n0
    rw [x235_25]
    all_goals first | (dsimp only; exact (show J b = J b from rfl)) | exact (show J b = J b from rfl)
  | succ c ih =>
    intro v2 J n0
    rw [x235_25]
    by_cases h : (Int32.ofInt 212) ≤ v2
    · rw [if_pos h]
      all_goals first | (dsimp only; exact (show J b = J b from rfl)) | exact (show J b = J b from rfl)
    · rw [if_neg h]
      exact (ih _ _ n0).trans (mu_o n0)
theorem x235_frJ {p : Nat → Nat} {v1 : Int32} {J : Nat → Nat → Int32} {b : Nat} (n0 : b ≠ p 4) : (x235 p v1 J).2 b = J b := by
  unfold x235
  by_cases h : (x145 v1.toInt64 (Int64.ofNat 0) 3) = 0
  · rw [if_pos h]
    all_goals first | (dsimp only; exact (show J b = J b from rfl)) | exact (show J b = J b from rfl)
  · rw [if_neg h]
    by_cases h : (J (p 15) v1.toNatClampNeg) = 0
    · rw [if_pos h]
      all_goals first | (dsimp only; exact (show J b = J b from rfl)) | exact (show J b = J b from rfl)
    · rw [if_neg h]
      exact (x235_25_frJ _ _ _ n0).trans (rfl)
end
section
/-! years, the other side -/
theorem xb_dec {x : Int32} {c : Nat} (h : ¬ x = 0) (hc : x.toBitVec.toNat ≤ c + 1) : (x &&& (x - Int32.ofInt 1)).toBitVec.toNat ≤ c := by
  have h1 : x.toBitVec.toNat ≠ 0 := fun e => h (Int32.toBitVec_inj.mp (BitVec.eq_of_toNat_eq (e.trans (by decide))))
  have h3 : (Int32.ofInt 1).toBitVec.toNat = 1 := by decide
  have h4 := x.toBitVec.isLt
  have h2 : (x - Int32.ofInt 1).toBitVec.toNat = x.toBitVec.toNat - 1 := by
    rw [Int32.toBitVec_sub, BitVec.toNat_sub, h3]
    omega
  rw [Int32.toBitVec_and, BitVec.toNat_and]
  have h5 : x.toBitVec.toNat &&& (x - Int32.ofInt 1).toBitVec.toNat ≤ (x - Int32.ofInt 1).toBitVec.toNat := Nat.and_le_right
  omega
theorem xb_end {x : Int32} (hc : x.toBitVec.toNat ≤ 0) : x = 0 := Int32.toBitVec_inj.mp (BitVec.eq_of_toNat_eq ((Nat.le_zero.mp hc).trans (by decide)))
/-! Model.bits -/
def x214_4  : Nat → Int32 → Int32 → Int32
  | 0, v1, v2 => v1
  | c + 1, v1, v2 => if v2 = 0 then v1
    else (x214_4 c (v1 + (Int32.ofInt 1)) (v2 &&& (v2 - (Int32.ofInt 1))))
theorem xt214_4 {X : nt_X} {d : Nat} {M : nt_M} {o : Option Value × nt_M} {v0 : Int32} {J : Nat → Nat → Int32}  : ∀ (c : Nat) (v1 : Int32) (v2 : Int32), (v2.toBitVec.toNat ≤ c) → nt_rn X d 214 (4, [(0, .int v0), (1, .int v1), (2, .int v2)], [], me_w M J) o → o = (some (.int (x214_4 c v1 v2)), me_w M J) := by
  intro c
  induction c with
  | zero =>
    intro v1 v2 hc k
    have k := ly_revb 2 (c' := (if v2 = 0 then 20 else 8, [(0, .int v0), (1, .int v1), (2, .int v2)], [], me_w M J)) rfl k
    have h5 : v2 = 0 := xb_end hc
    rw [if_pos h5] at k
    have k := ly_revb 1 (c' := (21, [(0, .int v0), (1, .int v1), (2, .int v2)], [.int v1], me_w M J)) rfl k
    have k := lz_ri rfl (by decide) k
    rw [k, x214_4]
  | succ c ih =>
    intro v1 v2 hc k
    have k := ly_revb 2 (c' := (if v2 = 0 then 20 else 8, [(0, .int v0), (1, .int v1), (2, .int v2)], [], me_w M J)) rfl k
    by_cases h5 : v2 = 0
    · rw [if_pos h5] at k
      have k := ly_revb 1 (c' := (21, [(0, .int v0), (1, .int v1), (2, .int v2)], [.int v1], me_w M J)) rfl k
      have k := lz_ri rfl (by decide) k
      rw [k, x214_4, if_pos h5]
    · rw [if_neg h5] at k
      have k := ly_revb 8 (c' := (4, [(2, .int (v2 &&& (v2 - (Int32.ofInt 1)))), (1, .int (v1 + (Int32.ofInt 1))), (0, .int v0)], [], me_w M J)) rfl k
      have k := nt_rn_w (a := [(2, .int (v2 &&& (v2 - (Int32.ofInt 1)))), (1, .int (v1 + (Int32.ofInt 1))), (0, .int v0)]) (b := [(0, .int v0), (1, .int (v1 + (Int32.ofInt 1))), (2, .int (v2 &&& (v2 - (Int32.ofInt 1))))]) ⟨rfl, rfl, rfl, trivial⟩ rfl k
      have k := ih (v1 + (Int32.ofInt 1)) (v2 &&& (v2 - (Int32.ofInt 1))) (xb_dec h5 hc) k
      rw [k, x214_4, if_neg h5]
theorem x214_4_rule {I : Nat → Int32 → Int32 → Prop} {Q : Int32 → Prop} (h0 : ∀ (v1 : Int32) (v2 : Int32), I 0 v1 v2 → Q v1) (h1 : ∀ (c : Nat) (v1 : Int32) (v2 : Int32), I (c + 1) v1 v2 →
    if v2 = 0 then (Q v1)
    else (I c (v1 + (Int32.ofInt 1)) (v2 &&& (v2 - (Int32.ofInt 1))))) : ∀ (c : Nat) (v1 : Int32) (v2 : Int32), I c v1 v2 → Q (x214_4 c v1 v2) := by
  intro c
  induction c with
  | zero =>
    intro v1 v2 hi
    rw [x214_4]
    exact h0 v1 v2 hi
  | succ c ih =>
    intro v1 v2 hi
    have hi := h1 c v1 v2 hi
    rw [x214_4]
    by_cases h : v2 = 0
    · rw [if_pos h] at hi ⊢
      exact hi
    · rw [if_neg h] at hi ⊢
      exact ih _ _ hi
def x214 (v0 : Int32) : Int32 := (x214_4 v0.toBitVec.toNat (Int32.ofInt 0) v0)
theorem xt214 {X : nt_X} {d : Nat} {M : nt_M} {o : Option Value × nt_M} {v0 : Int32} {J : Nat → Nat → Int32}  (k : nt_ev X d 214 [.int v0] (me_w M J) o) : o = (some (.int (x214 v0)), me_w M J) := by
  have k : nt_rn X d 214 (0, [(0, .int v0)], [], me_w M J) o := k
  have k := ly_revb 4 (c' := (4, [(2, .int v0), (1, .int (Int32.ofInt 0)), (0, .int v0)], [], me_w M J)) rfl k
  have k := nt_rn_w (a := [(2, .int v0), (1, .int (Int32.ofInt 0)), (0, .int v0)]) (b := [(0, .int v0), (1, .int (Int32.ofInt 0)), (2, .int v0)]) ⟨rfl, rfl, rfl, trivial⟩ rfl k
  have k := xt214_4   v0.toBitVec.toNat (Int32.ofInt 0) v0 (Nat.le_refl _) k
  rw [k, x214]
/-! Model.firstIn -/
def x232_2 (p : Nat → Nat) (v1 : Int32) (J : Nat → Nat → Int32) : Nat → Int32 → Int32
  | 0, v2 => (Int32.ofInt (-1))
  | c + 1, v2 => if (J (p 4) 2) ≤ v2 then (Int32.ofInt (-1))
    else if (x171 p v2 v1 J) = 0 then (x232_2 p v1 J c (v2 + (Int32.ofInt 1)))
      else v2
theorem xt232_2 {X : nt_X} {d : Nat} {M : nt_M} {o : Option Value × nt_M} {p : Nat → Nat} {v1 : Int32} {J : Nat → Nat → Int32} (hp : xs_P M p) : ∀ (c : Nat) (v2 : Int32), (J (p 4) 2).toInt - v2.toInt ≤ c → nt_rn X d 232 (2, [(0, .ref (p 0)), (1, .int v1), (2, .int v2)], [], me_w M J) o → o = (some (.int (x232_2 p v1 J c v2)), me_w M J) := by
  intro c
  induction c with
  | zero =>
    intro v2 hc k
    have k := ly_revb 2 (c' := (4, [(0, .ref (p 0)), (1, .int v1), (2, .int v2)], [.ref (p 0), .int v2], me_w M J)) rfl k
    have k := lz_get (a := (p 0)) (g := 1127) (M := me_w M J) (v := .ref (p 4)) rfl (nt_gfR rfl (hp.1 (0, 27, 4) (by decide))) k
    have k := ly_revb 1 (c' := (8, [(0, .ref (p 0)), (1, .int v1), (2, .int v2)], [.int (Int32.ofInt 2), .ref (p 4), .int v2], me_w M J)) rfl k
    have k := mx_iald (v := J (p 4) 2) rfl (hp.2.2.1 4 (by omega)) ((congrArg (J (p 4)) (show (Int32.ofInt 2).toNatClampNeg = 2 from rfl)).trans (rfl)) k
    have k := ly_revb 1 (c' := (if (J (p 4) 2) ≤ v2 then 29 else 12, [(0, .ref (p 0)), (1, .int v1), (2, .int v2)], [], me_w M J)) rfl k
    have h9 : (J (p 4) 2) ≤ v2 := lx_end hc
    rw [if_pos h9] at k
    have k := ly_revb 1 (c' := (30, [(0, .ref (p 0)), (1, .int v1), (2, .int v2)], [.int (Int32.ofInt (-1))], me_w M J)) rfl k
    have k := lz_ri rfl (by decide) k
    rw [k, x232_2]
  | succ c ih =>
    intro v2 hc k
    have k := ly_revb 2 (c' := (4, [(0, .ref (p 0)), (1, .int v1), (2, .int v2)], [.ref (p 0), .int v2], me_w M J)) rfl k
    have k := lz_get (a := (p 0)) (g := 1127) (M := me_w M J) (v := .ref (p 4)) rfl (nt_gfR rfl (hp.1 (0, 27, 4) (by decide))) k
    have k := ly_revb 1 (c' := (8, [(0, .ref (p 0)), (1, .int v1), (2, .int v2)], [.int (Int32.ofInt 2), .ref (p 4), .int v2], me_w M J)) rfl k
    have k := mx_iald (v := J (p 4) 2) rfl (hp.2.2.1 4 (by omega)) ((congrArg (J (p 4)) (show (Int32.ofInt 2).toNatClampNeg = 2 from rfl)).trans (rfl)) k
    have k := ly_revb 1 (c' := (if (J (p 4) 2) ≤ v2 then 29 else 12, [(0, .ref (p 0)), (1, .int v1), (2, .int v2)], [], me_w M J)) rfl k
    by_cases h9 : (J (p 4) 2) ≤ v2
    · rw [if_pos h9] at k
      have k := ly_revb 1 (c' := (30, [(0, .ref (p 0)), (1, .int v1), (2, .int v2)], [.int (Int32.ofInt (-1))], me_w M J)) rfl k
      have k := lz_ri rfl (by decide) k
      rw [k, x232_2, if_pos h9]
    · rw [if_neg h9] at k
      have k := ly_revb 3 (c' := (15, [(0, .ref (p 0)), (1, .int v1), (2, .int v2)], [.int v1, .int v2, .ref (p 0)], me_w M J)) rfl k
      obtain ⟨d1, o1, ed, kc, k⟩ := lz_c (g := 171) (q := 1) (vs := [.ref (p 0), .int v2, .int v1]) (rest := []) rfl rfl (by decide) (Or.inr (Or.inl ⟨_, rfl, rfl⟩)) rfl k
      have e1 := xt171 hp kc
      subst e1
      have k : nt_rn X _ 232 (18, [(0, .ref (p 0)), (1, .int v1), (2, .int v2)], [.int (x171 p v2 v1 J)], me_w M J) _ := k
      have k := ly_revb 1 (c' := (if (x171 p v2 v1 J) = 0 then 23 else 21, [(0, .ref (p 0)), (1, .int v1), (2, .int v2)], [], me_w M J)) rfl k
      by_cases h18 : (x171 p v2 v1 J) = 0
      · rw [if_pos h18] at k
        have k := ly_revb 2 (c' := (2, [(2, .int (v2 + (Int32.ofInt 1))), (0, .ref (p 0)), (1, .int v1)], [], me_w M J)) rfl k
        have k := nt_rn_w (a := [(2, .int (v2 + (Int32.ofInt 1))), (0, .ref (p 0)), (1, .int v1)]) (b := [(0, .ref (p 0)), (1, .int v1), (2, .int (v2 + (Int32.ofInt 1)))]) ⟨rfl, rfl, rfl, trivial⟩ rfl k
        have k := ih (v2 + (Int32.ofInt 1)) (lx_dec h9 hc) k
        rw [k, x232_2, if_neg h9, if_pos h18]
      · rw [if_neg h18] at k
        have k := ly_revb 1 (c' := (22, [(0, .ref (p 0)), (1, .int v1), (2, .int v2)], [.int v2], me_w M J)) rfl k
        have k := lz_ri rfl (by decide) k
        rw [k, x232_2, if_neg h9, if_neg h18]
theorem x232_2_rule {p : Nat → Nat} {v1 : Int32} {J : Nat → Nat → Int32} {I : Nat → Int32 → Prop} {Q : Int32 → Prop} (h0 : ∀ (v2 : Int32), I 0 v2 → Q (Int32.ofInt (-1))) (h1 : ∀ (c : Nat) (v2 : Int32), I (c + 1) v2 →
    if (J (p 4) 2) ≤ v2 then (Q (Int32.ofInt (-1)))
    else if (x171 p v2 v1 J) = 0 then (I c (v2 + (Int32.ofInt 1)))
      else (Q v2)) : ∀ (c : Nat) (v2 : Int32), I c v2 → Q (x232_2 p v1 J c v2) := by
  intro c
  induction c with
  | zero =>
    intro v2 hi
    rw [x232_2]
    exact h0 v2 hi
  | succ c ih =>
    intro v2 hi
    have hi := h1 c v2 hi
    rw [x232_2]
    by_cases h : (J (p 4) 2) ≤ v2
    · rw [if_pos h] at hi ⊢
      exact hi
    · rw [if_neg h] at hi ⊢
      by_cases h : (x171 p v2 v1 J) = 0
      · rw [if_pos h] at hi ⊢
        exact ih _ hi
      · rw [if_neg h] at hi ⊢
        exact hi
def x232 (p : Nat → Nat) (v1 : Int32) (J : Nat → Nat → Int32) : Int32 := (x232_2 p v1 J ((J (p 4) 2).toNatClampNeg) (Int32.ofInt 0))
theorem xt232 {X : nt_X} {d : Nat} {M : nt_M} {o : Option Value × nt_M} {p : Nat → Nat} {v1 : Int32} {J : Nat → Nat → Int32} (hp : xs_P M p) (k : nt_ev X d 232 [.ref (p 0), .int v1] (me_w M J) o) : o = (some (.int (x232 p v1 J)), me_w M J) := by
  have k : nt_rn X d 232 (0, [(0, .ref (p 0)), (1, .int v1)], [], me_w M J) o := k
  have k := ly_revb 2 (c' := (2, [(2, .int (Int32.ofInt 0)), (0, .ref (p 0)), (1, .int v1)], [], me_w M J)) rfl k
  have k := nt_rn_w (a := [(2, .int (Int32.ofInt 0)), (0, .ref (p 0)), (1, .int v1)]) (b := [(0, .ref (p 0)), (1, .int v1), (2, .int (Int32.ofInt 0))]) ⟨rfl, rfl, rfl, trivial⟩ rfl k
  have k := xt232_2 hp  ((J (p 4) 2).toNatClampNeg) (Int32.ofInt 0) (lx_beg (by decide)) k
  rw [k, x232]
theorem xw_232 {p : Nat → Nat} {s : Int32} {J : Nat → Nat → Int32} (hW : xr_W (J (p 4))) : x232 p s J = Int32.ofInt (-1) ∨ (0 ≤ (x232 p s J).toInt ∧ (x232 p s J).toInt ≤ 23) := by
  unfold x232
  refine x232_2_rule (I := fun _ v2 => 0 ≤ v2.toInt) (Q := fun r => r = Int32.ofInt (-1) ∨ (0 ≤ r.toInt ∧ r.toInt ≤ 23)) ?_ ?_ _ _ (by decide)
  · intro v2 h
    exact Or.inl rfl
  · intro c v2 h
    by_cases h1 : J (p 4) 2 ≤ v2
    · rw [if_pos h1]
      exact Or.inl rfl
    · rw [if_neg h1]
      have l24 := xi_lt h1 (xr_2 hW).2
      by_cases h2 : x171 p v2 s J = 0
      · rw [if_pos h2]
        exact xi_nn h1 h
      · rw [if_neg h2]
        exact Or.inr ⟨h, by omega⟩
theorem xw_dr {p : Nat → Nat} {s v : Int32} {J : Nat → Nat → Int32} (hW : xr_W (J (p 4))) (h : 0 ≤ x232 p s J) : xr_W (nt_u J (p 4) ((((Int32.ofInt 52) + ((Int32.ofInt 5) * (x232 p s J))) + (Int32.ofInt 1)).toNatClampNeg) v (p 4)) ∧ nt_u J (p 4) ((((Int32.ofInt 52) + ((Int32.ofInt 5) * (x232 p s J))) + (Int32.ofInt 1)).toNatClampNeg) v (p 4) 1 = J (p 4) 1 := by
  rcases xw_232 (s := s) hW with e | e
  · rw [e] at h
    exact absurd h (by decide)
  · rw [xi_p1 e.1 (by omega)]
    exact ⟨xr_up hW (xr_any (xr_bp (by omega) (by omega) (by omega) (by omega))), me_uk (by omega)⟩
theorem xw_229 {p : Nat → Nat} {J : Nat → Nat → Int32} (hn : p 7 ≠ p 4) (h : xr_W (J (p 7))) : xr_W (x229 p J (p 4)) := xr_ae (zpb hn).1 h
/-! Model.years -/
def x231_101 (p : Nat → Nat) (v1 : Int32) (v2 : Int32) (v3 : Int32) (v4 : Int32) (v5 : Int32) (v8 : Int32) (v9 : Int32) (v10 : Int32) (L : Nat → Nat → Int64) : Nat → Int64 → Int32 → (Nat → Nat → Int32) → Int64 × (Nat → Nat → Int32)
  | 0, v6, v11, J => (v6, J)
  | c + 1, v6, v11, J => if (J (p 4) 1) ≤ v11 then (v6, J)
    else if (x169 p v11 (Int32.ofInt 4) J) = (Int32.ofInt 1) then if 0 ≤ (x232 p v11 J) then if 0 ≤ (lg_cmp (((((v6 * 1103515245) + 12345) - ((v6 * 1103515245) + 12345) / 2147483648 * 2147483648) / 65536) - ((((v6 * 1103515245) + 12345) - ((v6 * 1103515245) + 12345) / 2147483648 * 2147483648) / 65536) / 100 * 100) v4.toInt64) then (x231_101 p v1 v2 v3 v4 v5 v8 v9 v10 L c (((v6 * 1103515245) + 12345) - ((v6 * 1103515245) + 12345) / 2147483648 * 2147483648) (v11 + (Int32.ofInt 1)) J)
          else if (x173 p (x232 p v11 J) (Int32.ofInt 1) J) ≤ (Int32.ofInt 1) then (x231_101 p v1 v2 v3 v4 v5 v8 v9 v10 L c (((v6 * 1103515245) + 12345) - ((v6 * 1103515245) + 12345) / 2147483648 * 2147483648) (v11 + (Int32.ofInt 1)) J)
            else (x231_101 p v1 v2 v3 v4 v5 v8 v9 v10 L c (((v6 * 1103515245) + 12345) - ((v6 * 1103515245) + 12345) / 2147483648 * 2147483648) (v11 + (Int32.ofInt 1)) (nt_u J (p 4) ((((Int32.ofInt 52) + ((Int32.ofInt 5) * (x232 p v11 J))) + (Int32.ofInt 1)).toNatClampNeg) ((J (p 4) ((((Int32.ofInt 52) + ((Int32.ofInt 5) * (x232 p v11 J))) + (Int32.ofInt 1)).toNatClampNeg)) - (Int32.ofInt 1))))
        else (x231_101 p v1 v2 v3 v4 v5 v8 v9 v10 L c v6 (v11 + (Int32.ofInt 1)) J)
      else (x231_101 p v1 v2 v3 v4 v5 v8 v9 v10 L c v6 (v11 + (Int32.ofInt 1)) J)
theorem xt231_101 {X : nt_X} {d : Nat} {M : nt_M} {o : Option Value × nt_M} {p : Nat → Nat} {v1 : Int32} {v2 : Int32} {v3 : Int32} {v4 : Int32} {v5 : Int32} {v8 : Int32} {v9 : Int32} {v10 : Int32} {L : Nat → Nat → Int64} (hp : xs_P M p) : ∀ (c : Nat) (v6 : Int64) (v11 : Int32) (v12 : Int32) (J : Nat → Nat → Int32), (xr_W (J (p 4)) ∧ (J (p 4) 1).toInt - v11.toInt ≤ c ∧ 0 ≤ v11.toInt) → nt_rn X d 231 (101, [(0, .ref (p 0)), (1, .int v1), (2, .int v2), (3, .int v3), (4, .int v4), (5, .int v5), (6, .long v6), (8, .int v8), (9, .int v9), (10, .int v10), (11, .int v11), (12, .int v12)], [], me_w (lw M L) J) o → ∃ (w11 : Int32) (w12 : Int32), nt_rn X d 231 (211, [(0, .ref (p 0)), (1, .int v1), (2, .int v2), (3, .int v3), (4, .int v4), (5, .int v5), (6, .long ((x231_101 p v1 v2 v3 v4 v5 v8 v9 v10 L c v6 v11 J).1)), (8, .int v8), (9, .int v9), (10, .int v10), (11, .int w11), (12, .int w12)], [], me_w (lw M L) ((x231_101 p v1 v2 v3 v4 v5 v8 v9 v10 L c v6 v11 J).2)) o := by
  intro c
  induction c with
  | zero =>
    intro v6 v11 v12 J hc k
    have k := ly_revb 2 (c' := (104, [(0, .ref (p 0)), (1, .int v1), (2, .int v2), (3, .int v3), (4, .int v4), (5, .int v5), (6, .long v6), (8, .int v8), (9, .int v9), (10, .int v10), (11, .int v11), (12, .int v12)], [.ref (p 0), .int v11], me_w (lw M L) J)) rfl k
    have k := lz_get (a := (p 0)) (g := 1127) (M := me_w (lw M L) J) (v := .ref (p 4)) rfl (nt_gfR rfl (mw_RL (hp.1 (0, 27, 4) (by decide)))) k
    have k := ly_revb 1 (c' := (108, [(0, .ref (p 0)), (1, .int v1), (2, .int v2), (3, .int v3), (4, .int v4), (5, .int v5), (6, .long v6), (8, .int v8), (9, .int v9), (10, .int v10), (11, .int v11), (12, .int v12)], [.int (Int32.ofInt 1), .ref (p 4), .int v11], me_w (lw M L) J)) rfl k
    have k := mx_iald (v := J (p 4) 1) rfl (hp.2.2.1 4 (by omega)) ((congrArg (J (p 4)) (show (Int32.ofInt 1).toNatClampNeg = 1 from rfl)).trans (rfl)) k
    have k := ly_revb 1 (c' := (if (J (p 4) 1) ≤ v11 then 211 else 112, [(0, .ref (p 0)), (1, .int v1), (2, .int v2), (3, .int v3), (4, .int v4), (5, .int v5), (6, .long v6), (8, .int v8), (9, .int v9), (10, .int v10), (11, .int v11), (12, .int v12)], [], me_w (lw M L) J)) rfl k
    have h109 : (J (p 4) 1) ≤ v11 := lx_end hc.2.1
    rw [if_pos h109] at k
    have k := nt_rn_w (a := [(0, .ref (p 0)), (1, .int v1), (2, .int v2), (3, .int v3), (4, .int v4), (5, .int v5), (6, .long v6), (8, .int v8), (9, .int v9), (10, .int v10), (11, .int v11), (12, .int v12)]) (b := [(0, .ref (p 0)), (1, .int v1), (2, .int v2), (3, .int v3), (4, .int v4), (5, .int v5), (6, .long v6), (8, .int v8), (9, .int v9), (10, .int v10), (11, .int v11), (12, .int v12)]) ⟨rfl, rfl, rfl, rfl, rfl, rfl, rfl, rfl, rfl, rfl, rfl, rfl, trivial⟩ rfl k
    rw [x231_101]
    exact ⟨_, _, k⟩
  | succ c ih =>
    intro v6 v11 v12 J hc k
    have k := ly_revb 2 (c' := (104, [(0, .ref (p 0)), (1, .int v1), (2, .int v2), (3, .int v3), (4, .int v4), (5, .int v5), (6, .long v6), (8, .int v8), (9, .int v9), (10, .int v10), (11, .int v11), (12, .int v12)], [.ref (p 0), .int v11], me_w (lw M L) J)) rfl k
    have k := lz_get (a := (p 0)) (g := 1127) (M := me_w (lw M L) J) (v := .ref (p 4)) rfl (nt_gfR rfl (mw_RL (hp.1 (0, 27, 4) (by decide)))) k
    have k := ly_revb 1 (c' := (108, [(0, .ref (p 0)), (1, .int v1), (2, .int v2), (3, .int v3), (4, .int v4), (5, .int v5), (6, .long v6), (8, .int v8), (9, .int v9), (10, .int v10), (11, .int v11), (12, .int v12)], [.int (Int32.ofInt 1), .ref (p 4), .int v11], me_w (lw M L) J)) rfl k
    have k := mx_iald (v := J (p 4) 1) rfl (hp.2.2.1 4 (by omega)) ((congrArg (J (p 4)) (show (Int32.ofInt 1).toNatClampNeg = 1 from rfl)).trans (rfl)) k
    have k := ly_revb 1 (c' := (if (J (p 4) 1) ≤ v11 then 211 else 112, [(0, .ref (p 0)), (1, .int v1), (2, .int v2), (3, .int v3), (4, .int v4), (5, .int v5), (6, .long v6), (8, .int v8), (9, .int v9), (10, .int v10), (11, .int v11), (12, .int v12)], [], me_w (lw M L) J)) rfl k
    by_cases h109 : (J (p 4) 1) ≤ v11
    · rw [if_pos h109] at k
      have k := nt_rn_w (a := [(0, .ref (p 0)), (1, .int v1), (2, .int v2), (3, .int v3), (4, .int v4), (5, .int v5), (6, .long v6), (8, .int v8), (9, .int v9), (10, .int v10), (11, .int v11), (12, .int v12)]) (b := [(0, .ref (p 0)), (1, .int v1), (2, .int v2), (3, .int v3), (4, .int v4), (5, .int v5), (6, .long v6), (8, .int v8), (9, .int v9), (10, .int v10), (11, .int v11), (12, .int v12)]) ⟨rfl, rfl, rfl, rfl, rfl, rfl, rfl, rfl, rfl, rfl, rfl, rfl, trivial⟩ rfl k
      rw [x231_101, if_pos h109]
      exact ⟨_, _, k⟩
    · rw [if_neg h109] at k
      have k := ly_revb 3 (c' := (116, [(0, .ref (p 0)), (1, .int v1), (2, .int v2), (3, .int v3), (4, .int v4), (5, .int v5), (6, .long v6), (8, .int v8), (9, .int v9), (10, .int v10), (11, .int v11), (12, .int v12)], [.int (Int32.ofInt 4), .int v11, .ref (p 0)], me_w (lw M L) J)) rfl k
      obtain ⟨d1, o1, ed, kc, k⟩ := lz_c (g := 169) (q := 1) (vs := [.ref (p 0), .int v11, .int (Int32.ofInt 4)]) (rest := []) rfl rfl (by decide) (Or.inr (Or.inl ⟨_, rfl, rfl⟩)) rfl k
      have e1 := xt169 (xs_lp hp) kc
      subst e1
      have k : nt_rn X _ 231 (119, [(0, .ref (p 0)), (1, .int v1), (2, .int v2), (3, .int v3), (4, .int v4), (5, .int v5), (6, .long v6), (8, .int v8), (9, .int v9), (10, .int v10), (11, .int v11), (12, .int v12)], [.int (x169 p v11 (Int32.ofInt 4) J)], me_w (lw M L) J) _ := k
      have k := ly_revb 2 (c' := (if (x169 p v11 (Int32.ofInt 4) J) = (Int32.ofInt 1) then 123 else 132, [(0, .ref (p 0)), (1, .int v1), (2, .int v2), (3, .int v3), (4, .int v4), (5, .int v5), (6, .long v6), (8, .int v8), (9, .int v9), (10, .int v10), (11, .int v11), (12, .int v12)], [], me_w (lw M L) J)) rfl k
      by_cases h120 : (x169 p v11 (Int32.ofInt 4) J) = (Int32.ofInt 1)
      · rw [if_pos h120] at k
        have k := ly_revb 2 (c' := (126, [(0, .ref (p 0)), (1, .int v1), (2, .int v2), (3, .int v3), (4, .int v4), (5, .int v5), (6, .long v6), (8, .int v8), (9, .int v9), (10, .int v10), (11, .int v11), (12, .int v12)], [.int v11, .ref (p 0)], me_w (lw M L) J)) rfl k
        obtain ⟨d1, o1, ed, kc, k⟩ := lz_c (g := 232) (q := 1) (vs := [.ref (p 0), .int v11]) (rest := []) rfl rfl (by decide) (Or.inr (Or.inl ⟨_, rfl, rfl⟩)) rfl k
        have e1 := xt232 (xs_lp hp) kc
        subst e1
        have k : nt_rn X _ 231 (129, [(0, .ref (p 0)), (1, .int v1), (2, .int v2), (3, .int v3), (4, .int v4), (5, .int v5), (6, .long v6), (8, .int v8), (9, .int v9), (10, .int v10), (11, .int v11), (12, .int v12)], [.int (x232 p v11 J)], me_w (lw M L) J) _ := k
        have k := ly_revb 4 (c' := (if 0 ≤ (x232 p v11 J) then 143 else 140, [(12, .int (x232 p v11 J)), (0, .ref (p 0)), (1, .int v1), (2, .int v2), (3, .int v3), (4, .int v4), (5, .int v5), (6, .long v6), (8, .int v8), (9, .int v9), (10, .int v10), (11, .int v11)], [], me_w (lw M L) J)) rfl k
        by_cases h137 : 0 ≤ (x232 p v11 J)
        · rw [if_pos h137] at k
          have k := ly_revb 6 (c' := (156, [(12, .int (x232 p v11 J)), (0, .ref (p 0)), (1, .int v1), (2, .int v2), (3, .int v3), (4, .int v4), (5, .int v5), (6, .long v6), (8, .int v8), (9, .int v9), (10, .int v10), (11, .int v11)], [.long 2147483648, .long ((v6 * 1103515245) + 12345)], me_w (lw M L) J)) rfl k
          obtain ⟨hd156, k⟩ := mx_lrem rfl k
          have k := ly_revb 3 (c' := (164, [(6, .long (((v6 * 1103515245) + 12345) - ((v6 * 1103515245) + 12345) / 2147483648 * 2147483648)), (12, .int (x232 p v11 J)), (0, .ref (p 0)), (1, .int v1), (2, .int v2), (3, .int v3), (4, .int v4), (5, .int v5), (8, .int v8), (9, .int v9), (10, .int v10), (11, .int v11)], [.long 65536, .long (((v6 * 1103515245) + 12345) - ((v6 * 1103515245) + 12345) / 2147483648 * 2147483648)], me_w (lw M L) J)) rfl k
          obtain ⟨hd164, k⟩ := mx_ldiv rfl k
          have k := ly_revb 1 (c' := (168, [(6, .long (((v6 * 1103515245) + 12345) - ((v6 * 1103515245) + 12345) / 2147483648 * 2147483648)), (12, .int (x232 p v11 J)), (0, .ref (p 0)), (1, .int v1), (2, .int v2), (3, .int v3), (4, .int v4), (5, .int v5), (8, .int v8), (9, .int v9), (10, .int v10), (11, .int v11)], [.long 100, .long ((((v6 * 1103515245) + 12345) - ((v6 * 1103515245) + 12345) / 2147483648 * 2147483648) / 65536)], me_w (lw M L) J)) rfl k
          obtain ⟨hd168, k⟩ := mx_lrem rfl k
          have k := ly_revb 4 (c' := (if 0 ≤ (lg_cmp (((((v6 * 1103515245) + 12345) - ((v6 * 1103515245) + 12345) / 2147483648 * 2147483648) / 65536) - ((((v6 * 1103515245) + 12345) - ((v6 * 1103515245) + 12345) / 2147483648 * 2147483648) / 65536) / 100 * 100) v4.toInt64) then 205 else 176, [(6, .long (((v6 * 1103515245) + 12345) - ((v6 * 1103515245) + 12345) / 2147483648 * 2147483648)), (12, .int (x232 p v11 J)), (0, .ref (p 0)), (1, .int v1), (2, .int v2), (3, .int v3), (4, .int v4), (5, .int v5), (8, .int v8), (9, .int v9), (10, .int v10), (11, .int v11)], [], me_w (lw M L) J)) rfl k
          by_cases h173 : 0 ≤ (lg_cmp (((((v6 * 1103515245) + 12345) - ((v6 * 1103515245) + 12345) / 2147483648 * 2147483648) / 65536) - ((((v6 * 1103515245) + 12345) - ((v6 * 1103515245) + 12345) / 2147483648 * 2147483648) / 65536) / 100 * 100) v4.toInt64)
          · rw [if_pos h173] at k
            have k := ly_revb 2 (c' := (101, [(11, .int (v11 + (Int32.ofInt 1))), (6, .long (((v6 * 1103515245) + 12345) - ((v6 * 1103515245) + 12345) / 2147483648 * 2147483648)), (12, .int (x232 p v11 J)), (0, .ref (p 0)), (1, .int v1), (2, .int v2), (3, .int v3), (4, .int v4), (5, .int v5), (8, .int v8), (9, .int v9), (10, .int v10)], [], me_w (lw M L) J)) rfl k
            have k := nt_rn_w (a := [(11, .int (v11 + (Int32.ofInt 1))), (6, .long (((v6 * 1103515245) + 12345) - ((v6 * 1103515245) + 12345) / 2147483648 * 2147483648)), (12, .int (x232 p v11 J)), (0, .ref (p 0)), (1, .int v1), (2, .int v2), (3, .int v3), (4, .int v4), (5, .int v5), (8, .int v8), (9, .int v9), (10, .int v10)]) (b := [(0, .ref (p 0)), (1, .int v1), (2, .int v2), (3, .int v3), (4, .int v4), (5, .int v5), (6, .long (((v6 * 1103515245) + 12345) - ((v6 * 1103515245) + 12345) / 2147483648 * 2147483648)), (8, .int v8), (9, .int v9), (10, .int v10), (11, .int (v11 + (Int32.ofInt 1))), (12, .int (x232 p v11 J))]) ⟨rfl, rfl, rfl, rfl, rfl, rfl, rfl, rfl, rfl, rfl, rfl, rfl, trivial⟩ rfl k
            have k := ih (((v6 * 1103515245) + 12345) - ((v6 * 1103515245) + 12345) / 2147483648 * 2147483648) (v11 + (Int32.ofInt 1)) (x232 p v11 J) J (⟨hc.1, lx_dec h109 hc.2.1, xi_nn h109 hc.2.2⟩) k
            rw [x231_101, if_neg h109, if_pos h120, if_pos h137, if_pos h173]
            exact k
          · rw [if_neg h173] at k
            have k := ly_revb 3 (c' := (180, [(6, .long (((v6 * 1103515245) + 12345) - ((v6 * 1103515245) + 12345) / 2147483648 * 2147483648)), (12, .int (x232 p v11 J)), (0, .ref (p 0)), (1, .int v1), (2, .int v2), (3, .int v3), (4, .int v4), (5, .int v5), (8, .int v8), (9, .int v9), (10, .int v10), (11, .int v11)], [.int (Int32.ofInt 1), .int (x232 p v11 J), .ref (p 0)], me_w (lw M L) J)) rfl k
            obtain ⟨d1, o1, ed, kc, k⟩ := lz_c (g := 173) (q := 1) (vs := [.ref (p 0), .int (x232 p v11 J), .int (Int32.ofInt 1)]) (rest := []) rfl rfl (by decide) (Or.inr (Or.inl ⟨_, rfl, rfl⟩)) rfl k
            have e1 := xt173 (xs_lp hp) kc
            subst e1
            have k : nt_rn X _ 231 (183, [(6, .long (((v6 * 1103515245) + 12345) - ((v6 * 1103515245) + 12345) / 2147483648 * 2147483648)), (12, .int (x232 p v11 J)), (0, .ref (p 0)), (1, .int v1), (2, .int v2), (3, .int v3), (4, .int v4), (5, .int v5), (8, .int v8), (9, .int v9), (10, .int v10), (11, .int v11)], [.int (x173 p (x232 p v11 J) (Int32.ofInt 1) J)], me_w (lw M L) J) _ := k
            have k := ly_revb 2 (c' := (if (x173 p (x232 p v11 J) (Int32.ofInt 1) J) ≤ (Int32.ofInt 1) then 205 else 187, [(6, .long (((v6 * 1103515245) + 12345) - ((v6 * 1103515245) + 12345) / 2147483648 * 2147483648)), (12, .int (x232 p v11 J)), (0, .ref (p 0)), (1, .int v1), (2, .int v2), (3, .int v3), (4, .int v4), (5, .int v5), (8, .int v8), (9, .int v9), (10, .int v10), (11, .int v11)], [], me_w (lw M L) J)) rfl k
            by_cases h184 : (x173 p (x232 p v11 J) (Int32.ofInt 1) J) ≤ (Int32.ofInt 1)
            · rw [if_pos h184] at k
              have k := ly_revb 2 (c' := (101, [(11, .int (v11 + (Int32.ofInt 1))), (6, .long (((v6 * 1103515245) + 12345) - ((v6 * 1103515245) + 12345) / 2147483648 * 2147483648)), (12, .int (x232 p v11 J)), (0, .ref (p 0)), (1, .int v1), (2, .int v2), (3, .int v3), (4, .int v4), (5, .int v5), (8, .int v8), (9, .int v9), (10, .int v10)], [], me_w (lw M L) J)) rfl k
              have k := nt_rn_w (a := [(11, .int (v11 + (Int32.ofInt 1))), (6, .long (((v6 * 1103515245) + 12345) - ((v6 * 1103515245) + 12345) / 2147483648 * 2147483648)), (12, .int (x232 p v11 J)), (0, .ref (p 0)), (1, .int v1), (2, .int v2), (3, .int v3), (4, .int v4), (5, .int v5), (8, .int v8), (9, .int v9), (10, .int v10)]) (b := [(0, .ref (p 0)), (1, .int v1), (2, .int v2), (3, .int v3), (4, .int v4), (5, .int v5), (6, .long (((v6 * 1103515245) + 12345) - ((v6 * 1103515245) + 12345) / 2147483648 * 2147483648)), (8, .int v8), (9, .int v9), (10, .int v10), (11, .int (v11 + (Int32.ofInt 1))), (12, .int (x232 p v11 J))]) ⟨rfl, rfl, rfl, rfl, rfl, rfl, rfl, rfl, rfl, rfl, rfl, rfl, trivial⟩ rfl k
              have k := ih (((v6 * 1103515245) + 12345) - ((v6 * 1103515245) + 12345) / 2147483648 * 2147483648) (v11 + (Int32.ofInt 1)) (x232 p v11 J) J (⟨hc.1, lx_dec h109 hc.2.1, xi_nn h109 hc.2.2⟩) k
              rw [x231_101, if_neg h109, if_pos h120, if_pos h137, if_neg h173, if_pos h184]
              exact k
            · rw [if_neg h184] at k
              have k := ly_revb 1 (c' := (188, [(6, .long (((v6 * 1103515245) + 12345) - ((v6 * 1103515245) + 12345) / 2147483648 * 2147483648)), (12, .int (x232 p v11 J)), (0, .ref (p 0)), (1, .int v1), (2, .int v2), (3, .int v3), (4, .int v4), (5, .int v5), (8, .int v8), (9, .int v9), (10, .int v10), (11, .int v11)], [.ref (p 0)], me_w (lw M L) J)) rfl k
              have k := lz_get (a := (p 0)) (g := 1127) (M := me_w (lw M L) J) (v := .ref (p 4)) rfl (nt_gfR rfl (mw_RL (hp.1 (0, 27, 4) (by decide)))) k
              have k := ly_revb 8 (c' := (201, [(6, .long (((v6 * 1103515245) + 12345) - ((v6 * 1103515245) + 12345) / 2147483648 * 2147483648)), (12, .int (x232 p v11 J)), (0, .ref (p 0)), (1, .int v1), (2, .int v2), (3, .int v3), (4, .int v4), (5, .int v5), (8, .int v8), (9, .int v9), (10, .int v10), (11, .int v11)], [.int (((Int32.ofInt 52) + ((Int32.ofInt 5) * (x232 p v11 J))) + (Int32.ofInt 1)), .ref (p 4), .int (((Int32.ofInt 52) + ((Int32.ofInt 5) * (x232 p v11 J))) + (Int32.ofInt 1)), .ref (p 4)], me_w (lw M L) J)) rfl k
              have k := mx_iald (v := J (p 4) ((((Int32.ofInt 52) + ((Int32.ofInt 5) * (x232 p v11 J))) + (Int32.ofInt 1)).toNatClampNeg)) rfl (hp.2.2.1 4 (by omega)) (rfl) k
              have k := ly_revb 2 (c' := (204, [(6, .long (((v6 * 1103515245) + 12345) - ((v6 * 1103515245) + 12345) / 2147483648 * 2147483648)), (12, .int (x232 p v11 J)), (0, .ref (p 0)), (1, .int v1), (2, .int v2), (3, .int v3), (4, .int v4), (5, .int v5), (8, .int v8), (9, .int v9), (10, .int v10), (11, .int v11)], [.int ((J (p 4) ((((Int32.ofInt 52) + ((Int32.ofInt 5) * (x232 p v11 J))) + (Int32.ofInt 1)).toNatClampNeg)) - (Int32.ofInt 1)), .int (((Int32.ofInt 52) + ((Int32.ofInt 5) * (x232 p v11 J))) + (Int32.ofInt 1)), .ref (p 4)], me_w (lw M L) J)) rfl k
              have k := mx_iast (q := (((Int32.ofInt 52) + ((Int32.ofInt 5) * (x232 p v11 J))) + (Int32.ofInt 1)).toNatClampNeg) rfl rfl k
              have k : nt_rn X _ 231 (205, [(6, .long (((v6 * 1103515245) + 12345) - ((v6 * 1103515245) + 12345) / 2147483648 * 2147483648)), (12, .int (x232 p v11 J)), (0, .ref (p 0)), (1, .int v1), (2, .int v2), (3, .int v3), (4, .int v4), (5, .int v5), (8, .int v8), (9, .int v9), (10, .int v10), (11, .int v11)], [], me_w (lw M L) (nt_u J (p 4) ((((Int32.ofInt 52) + ((Int32.ofInt 5) * (x232 p v11 J))) + (Int32.ofInt 1)).toNatClampNeg) ((J (p 4) ((((Int32.ofInt 52) + ((Int32.ofInt 5) * (x232 p v11 J))) + (Int32.ofInt 1)).toNatClampNeg)) - (Int32.ofInt 1)))) _ := k
              have k := ly_revb 2 (c' := (101, [(11, .int (v11 + (Int32.ofInt 1))), (6, .long (((v6 * 1103515245) + 12345) - ((v6 * 1103515245) + 12345) / 2147483648 * 2147483648)), (12, .int (x232 p v11 J)), (0, .ref (p 0)), (1, .int v1), (2, .int v2), (3, .int v3), (4, .int v4), (5, .int v5), (8, .int v8), (9, .int v9), (10, .int v10)], [], me_w (lw M L) (nt_u J (p 4) ((((Int32.ofInt 52) + ((Int32.ofInt 5) * (x232 p v11 J))) + (Int32.ofInt 1)).toNatClampNeg) ((J (p 4) ((((Int32.ofInt 52) + ((Int32.ofInt 5) * (x232 p v11 J))) + (Int32.ofInt 1)).toNatClampNeg)) - (Int32.ofInt 1))))) rfl k
              have k := nt_rn_w (a := [(11, .int (v11 + (Int32.ofInt 1))), (6, .long (((v6 * 1103515245) + 12345) - ((v6 * 1103515245) + 12345) / 2147483648 * 2147483648)), (12, .int (x232 p v11 J)), (0, .ref (p 0)), (1, .int v1), (2, .int v2), (3, .int v3), (4, .int v4), (5, .int v5), (8, .int v8), (9, .int v9), (10, .int v10)]) (b := [(0, .ref (p 0)), (1, .int v1), (2, .int v2), (3, .int v3), (4, .int v4), (5, .int v5), (6, .long (((v6 * 1103515245) + 12345) - ((v6 * 1103515245) + 12345) / 2147483648 * 2147483648)), (8, .int v8), (9, .int v9), (10, .int v10), (11, .int (v11 + (Int32.ofInt 1))), (12, .int (x232 p v11 J))]) ⟨rfl, rfl, rfl, rfl, rfl, rfl, rfl, rfl, rfl, rfl, rfl, rfl, trivial⟩ rfl k
              have k := ih (((v6 * 1103515245) + 12345) - ((v6 * 1103515245) + 12345) / 2147483648 * 2147483648) (v11 + (Int32.ofInt 1)) (x232 p v11 J) (nt_u J (p 4) ((((Int32.ofInt 52) + ((Int32.ofInt 5) * (x232 p v11 J))) + (Int32.ofInt 1)).toNatClampNeg) ((J (p 4) ((((Int32.ofInt 52) + ((Int32.ofInt 5) * (x232 p v11 J))) + (Int32.ofInt 1)).toNatClampNeg)) - (Int32.ofInt 1))) (⟨(xw_dr hc.1 h137).1, by rw [(xw_dr hc.1 h137).2]; exact lx_dec h109 hc.2.1, xi_nn h109 hc.2.2⟩) k
              rw [x231_101, if_neg h109, if_pos h120, if_pos h137, if_neg h173, if_neg h184]
              exact k
        · rw [if_neg h137] at k
          have k := ly_revb 3 (c' := (101, [(11, .int (v11 + (Int32.ofInt 1))), (12, .int (x232 p v11 J)), (0, .ref (p 0)), (1, .int v1), (2, .int v2), (3, .int v3), (4, .int v4), (5, .int v5), (6, .long v6), (8, .int v8), (9, .int v9), (10, .int v10)], [], me_w (lw M L) J)) rfl k
          have k := nt_rn_w (a := [(11, .int (v11 + (Int32.ofInt 1))), (12, .int (x232 p v11 J)), (0, .ref (p 0)), (1, .int v1), (2, .int v2), (3, .int v3), (4, .int v4), (5, .int v5), (6, .long v6), (8, .int v8), (9, .int v9), (10, .int v10)]) (b := [(0, .ref (p 0)), (1, .int v1), (2, .int v2), (3, .int v3), (4, .int v4), (5, .int v5), (6, .long v6), (8, .int v8), (9, .int v9), (10, .int v10), (11, .int (v11 + (Int32.ofInt 1))), (12, .int (x232 p v11 J))]) ⟨rfl, rfl, rfl, rfl, rfl, rfl, rfl, rfl, rfl, rfl, rfl, rfl, trivial⟩ rfl k
          have k := ih v6 (v11 + (Int32.ofInt 1)) (x232 p v11 J) J (⟨hc.1, lx_dec h109 hc.2.1, xi_nn h109 hc.2.2⟩) k
          rw [x231_101, if_neg h109, if_pos h120, if_neg h137]
          exact k
      · rw [if_neg h120] at k
        have k := ly_revb 4 (c' := (if 0 ≤ (Int32.ofInt (-1)) then 143 else 140, [(12, .int (Int32.ofInt (-1))), (0, .ref (p 0)), (1, .int v1), (2, .int v2), (3, .int v3), (4, .int v4), (5, .int v5), (6, .long v6), (8, .int v8), (9, .int v9), (10, .int v10), (11, .int v11)], [], me_w (lw M L) J)) rfl k
        rw [if_neg (show ¬ (0 ≤ (Int32.ofInt (-1))) from by decide)] at k
        have k := ly_revb 3 (c' := (101, [(11, .int (v11 + (Int32.ofInt 1))), (12, .int (Int32.ofInt (-1))), (0, .ref (p 0)), (1, .int v1), (2, .int v2), (3, .int v3), (4, .int v4), (5, .int v5), (6, .long v6), (8, .int v8), (9, .int v9), (10, .int v10)], [], me_w (lw M L) J)) rfl k
        have k := nt_rn_w (a := [(11, .int (v11 + (Int32.ofInt 1))), (12, .int (Int32.ofInt (-1))), (0, .ref (p 0)), (1, .int v1), (2, .int v2), (3, .int v3), (4, .int v4), (5, .int v5), (6, .long v6), (8, .int v8), (9, .int v9), (10, .int v10)]) (b := [(0, .ref (p 0)), (1, .int v1), (2, .int v2), (3, .int v3), (4, .int v4), (5, .int v5), (6, .long v6), (8, .int v8), (9, .int v9), (10, .int v10), (11, .int (v11 + (Int32.ofInt 1))), (12, .int (Int32.ofInt (-1)))]) ⟨rfl, rfl, rfl, rfl, rfl, rfl, rfl, rfl, rfl, rfl, rfl, rfl, trivial⟩ rfl k
        have k := ih v6 (v11 + (Int32.ofInt 1)) (Int32.ofInt (-1)) J (⟨hc.1, lx_dec h109 hc.2.1, xi_nn h109 hc.2.2⟩) k
        rw [x231_101, if_neg h109, if_neg h120]
        exact k
theorem x231_101_rule {p : Nat → Nat} {v1 : Int32} {v2 : Int32} {v3 : Int32} {v4 : Int32} {v5 : Int32} {v8 : Int32} {v9 : Int32} {v10 : Int32} {L : Nat → Nat → Int64} {I : Nat → Int64 → Int32 → (Nat → Nat → Int32) → Prop} {Q : Int64 × (Nat → Nat → Int32) → Prop} (h0 : ∀ (v6 : Int64) (v11 : Int32) (J : Nat → Nat → Int32), I 0 v6 v11 J → Q (v6, J)) (h1 : ∀ (c : Nat) (v6 : Int64) (v11 : Int32) (J : Nat → Nat → Int32), I (c + 1) v6 v11 J →
    if (J (p 4) 1) ≤ v11 then (Q (v6, J))
    else if (x169 p v11 (Int32.ofInt 4) J) = (Int32.ofInt 1) then if 0 ≤ (x232 p v11 J) then if 0 ≤ (lg_cmp (((((v6 * 1103515245) + 12345) - ((v6 * 1103515245) + 12345) / 2147483648 * 2147483648) / 65536) - ((((v6 * 1103515245) + 12345) - ((v6 * 1103515245) + 12345) / 2147483648 * 2147483648) / 65536) / 100 * 100) v4.toInt64) then (I c (((v6 * 1103515245) + 12345) - ((v6 * 1103515245) + 12345) / 2147483648 * 2147483648) (v11 + (Int32.ofInt 1)) J)
          else if (x173 p (x232 p v11 J) (Int32.ofInt 1) J) ≤ (Int32.ofInt 1) then (I c (((v6 * 1103515245) + 12345) - ((v6 * 1103515245) + 12345) / 2147483648 * 2147483648) (v11 + (Int32.ofInt 1)) J)
            else (I c (((v6 * 1103515245) + 12345) - ((v6 * 1103515245) + 12345) / 2147483648 * 2147483648) (v11 + (Int32.ofInt 1)) (nt_u J (p 4) ((((Int32.ofInt 52) + ((Int32.ofInt 5) * (x232 p v11 J))) + (Int32.ofInt 1)).toNatClampNeg) ((J (p 4) ((((Int32.ofInt 52) + ((Int32.ofInt 5) * (x232 p v11 J))) + (Int32.ofInt 1)).toNatClampNeg)) - (Int32.ofInt 1))))
        else (I c v6 (v11 + (Int32.ofInt 1)) J)
      else (I c v6 (v11 + (Int32.ofInt 1)) J)) : ∀ (c : Nat) (v6 : Int64) (v11 : Int32) (J : Nat → Nat → Int32), I c v6 v11 J → Q (x231_101 p v1 v2 v3 v4 v5 v8 v9 v10 L c v6 v11 J) := by
  intro c
  induction c with
  | zero =>
    intro v6 v11 J hi
    rw [x231_101]
    exact h0 v6 v11 J hi
  | succ c ih =>
    intro v6 v11 J hi
    have hi := h1 c v6 v11 J hi
    rw [x231_101]
    by_cases h : (J (p 4) 1) ≤ v11
    · rw [if_pos h] at hi ⊢
      exact hi
    · rw [if_neg h] at hi ⊢
      by_cases h : (x169 p v11 (Int32.ofInt 4) J) = (Int32.ofInt 1)
      · rw [if_pos h] at hi ⊢
        by_cases h : 0 ≤ (x232 p v11 J)
        · rw [if_pos h] at hi ⊢
          by_cases h : 0 ≤ (lg_cmp (((((v6 * 1103515245) + 12345) - ((v6 * 1103515245) + 12345) / 2147483648 * 2147483648) / 65536) - ((((v6 * 1103515245) + 12345) - ((v6 * 1103515245) + 12345) / 2147483648 * 2147483648) / 65536) / 100 * 100) v4.toInt64)
          · rw [if_pos h] at hi ⊢
            exact ih _ _ _ hi
          · rw [if_neg h] at hi ⊢
            by_cases h : (x173 p (x232 p v11 J) (Int32.ofInt 1) J) ≤ (Int32.ofInt 1)
            · rw [if_pos h] at hi ⊢
              exact ih _ _ _ hi
            · rw [if_neg h] at hi ⊢
              exact ih _ _ _ hi
        · rw [if_neg h] at hi ⊢
          exact ih _ _ _ hi
      · rw [if_neg h] at hi ⊢
        exact ih _ _ _ hi
theorem xw_101 {p : Nat → Nat} {v1 v2 v3 v4 v5 v8 v9 v10 : Int32} {L : Nat → Nat → Int64} {c : Nat} {v6 : Int64} {v11 : Int32} {J : Nat → Nat → Int32} (hW : xr_W (J (p 4))) (h0 : 0 ≤ v11.toInt) : xr_W ((x231_101 p v1 v2 v3 v4 v5 v8 v9 v10 L c v6 v11 J).2 (p 4)) := by
  refine x231_101_rule (I := fun _ _ v11 J1 => xr_W (J1 (p 4)) ∧ 0 ≤ v11.toInt) (Q := fun r => xr_W (r.2 (p 4))) ?_ ?_ _ _ _ _ ⟨hW, h0⟩
  · intro v6 v11 J1 h
    exact h.1
  · intro c v6 v11 J1 h
    by_cases h1 : J1 (p 4) 1 ≤ v11
    · rw [if_pos h1]
      exact h.1
    · rw [if_neg h1]
      split
      · split
        · rename_i h137
          split
          · exact ⟨h.1, xi_nn h1 h.2⟩
          · split
            · exact ⟨h.1, xi_nn h1 h.2⟩
            · exact ⟨(xw_dr h.1 h137).1, xi_nn h1 h.2⟩
        · exact ⟨h.1, xi_nn h1 h.2⟩
      · exact ⟨h.1, xi_nn h1 h.2⟩
theorem x231_101_frJ {p : Nat → Nat} {v1 : Int32} {v2 : Int32} {v3 : Int32} {v4 : Int32} {v5 : Int32} {v8 : Int32} {v9 : Int32} {v10 : Int32} {L : Nat → Nat → Int64} {b : Nat} : ∀ (c : Nat) (v6 : Int64) (v11 : Int32) (J : Nat → Nat → Int32), b ≠ p 4 → (x231_101 p v1 v2 v3 v4 v5 v8 v9 v10 L c v6 v11 J).2 b = J b := by
  intro c
  induction c with
  | zero =>
    intro v6 v11 J n0
    rw [x231_101]
    all_goals first | (dsimp only; exact (show J b = J b from rfl)) | exact (show J b = J b from rfl)
  | succ c ih =>
    intro v6 v11 J n0
    rw [x231_101]
    by_cases h : (J (p 4) 1) ≤ v11
    · rw [if_pos h]
      all_goals first | (dsimp only; exact (show J b = J b from rfl)) | exact (show J b = J b from rfl)
    · rw [if_neg h]
      by_cases h : (x169 p v11 (Int32.ofInt 4) J) = (Int32.ofInt 1)
      · rw [if_pos h]
        by_cases h : 0 ≤ (x232 p v11 J)
        · rw [if_pos h]
          by_cases h : 0 ≤ (lg_cmp (((((v6 * 1103515245) + 12345) - ((v6 * 1103515245) + 12345) / 2147483648 * 2147483648) / 65536) - ((((v6 * 1103515245) + 12345) - ((v6 * 1103515245) + 12345) / 2147483648 * 2147483648) / 65536) / 100 * 100) v4.toInt64)
          · rw [if_pos h]
            exact (ih _ _ _ n0).trans (rfl)
          · rw [if_neg h]
            by_cases h : (x173 p (x232 p v11 J) (Int32.ofInt 1) J) ≤ (Int32.ofInt 1)
            · rw [if_pos h]
              exact (ih _ _ _ n0).trans (rfl)
            · rw [if_neg h]
              exact (ih _ _ _ n0).trans (mu_o n0)
        · rw [if_neg h]
          exact (ih _ _ _ n0).trans (rfl)
      · rw [if_neg h]
        exact (ih _ _ _ n0).trans (rfl)
def x231_87 (p : Nat → Nat) (v1 : Int32) (v2 : Int32) (v3 : Int32) (v4 : Int32) (v5 : Int32) (v8 : Int32) (v9 : Int32) : Nat → Int64 → Int32 → (Nat → Nat → Int32) → (Nat → Nat → Int64) → Int64 × (Nat → Nat → Int32) × (Nat → Nat → Int64)
  | 0, v6, v10, J, L => (v6, J, L)
  | c + 1, v6, v10, J, L => if v3 ≤ v10 then (v6, J, L)
    else (x231_87 p v1 v2 v3 v4 v5 v8 v9 c ((x231_101 p v1 v2 v3 v4 v5 v8 v9 v10 ((x190 p v1 J L).2) ((((x190 p v1 J L).1) (p 4) 1).toNatClampNeg) v6 (Int32.ofInt 0) ((x190 p v1 J L).1)).1) (v10 + (Int32.ofInt 1)) ((x231_101 p v1 v2 v3 v4 v5 v8 v9 v10 ((x190 p v1 J L).2) ((((x190 p v1 J L).1) (p 4) 1).toNatClampNeg) v6 (Int32.ofInt 0) ((x190 p v1 J L).1)).2) ((x190 p v1 J L).2))
theorem xt231_87 {X : nt_X} {d : Nat} {M : nt_M} {o : Option Value × nt_M} {p : Nat → Nat} {v1 : Int32} {v2 : Int32} {v3 : Int32} {v4 : Int32} {v5 : Int32} {v8 : Int32} {v9 : Int32} (hp : xs_P M p) : ∀ (c : Nat) (v6 : Int64) (v10 : Int32) (v11 : Int32) (v12 : Int32) (J : Nat → Nat → Int32) (L : Nat → Nat → Int64), (xr_W (J (p 4)) ∧ v3.toInt - v10.toInt ≤ c) → nt_rn X d 231 (87, [(0, .ref (p 0)), (1, .int v1), (2, .int v2), (3, .int v3), (4, .int v4), (5, .int v5), (6, .long v6), (8, .int v8), (9, .int v9), (10, .int v10), (11, .int v11), (12, .int v12)], [], me_w (lw M L) J) o → ∃ (w10 : Int32) (w11 : Int32) (w12 : Int32), nt_rn X d 231 (217, [(0, .ref (p 0)), (1, .int v1), (2, .int v2), (3, .int v3), (4, .int v4), (5, .int v5), (6, .long ((x231_87 p v1 v2 v3 v4 v5 v8 v9 c v6 v10 J L).1)), (8, .int v8), (9, .int v9), (10, .int w10), (11, .int w11), (12, .int w12)], [], me_w (lw M ((x231_87 p v1 v2 v3 v4 v5 v8 v9 c v6 v10 J L).2.2)) ((x231_87 p v1 v2 v3 v4 v5 v8 v9 c v6 v10 J L).2.1)) o := by
  intro c
  induction c with
  | zero =>
    intro v6 v10 v11 v12 J L hc k
    have k := ly_revb 3 (c' := (if v3 ≤ v10 then 217 else 93, [(0, .ref (p 0)), (1, .int v1), (2, .int v2), (3, .int v3), (4, .int v4), (5, .int v5), (6, .long v6), (8, .int v8), (9, .int v9), (10, .int v10), (11, .int v11), (12, .int v12)], [], me_w (lw M L) J)) rfl k
    have h90 : v3 ≤ v10 := lx_end hc.2
    rw [if_pos h90] at k
    have k := nt_rn_w (a := [(0, .ref (p 0)), (1, .int v1), (2, .int v2), (3, .int v3), (4, .int v4), (5, .int v5), (6, .long v6), (8, .int v8), (9, .int v9), (10, .int v10), (11, .int v11), (12, .int v12)]) (b := [(0, .ref (p 0)), (1, .int v1), (2, .int v2), (3, .int v3), (4, .int v4), (5, .int v5), (6, .long v6), (8, .int v8), (9, .int v9), (10, .int v10), (11, .int v11), (12, .int v12)]) ⟨rfl, rfl, rfl, rfl, rfl, rfl, rfl, rfl, rfl, rfl, rfl, rfl, trivial⟩ rfl k
    rw [x231_87]
    exact ⟨_, _, _, k⟩
  | succ c ih =>
    intro v6 v10 v11 v12 J L hc k
    have k := ly_revb 3 (c' := (if v3 ≤ v10 then 217 else 93, [(0, .ref (p 0)), (1, .int v1), (2, .int v2), (3, .int v3), (4, .int v4), (5, .int v5), (6, .long v6), (8, .int v8), (9, .int v9), (10, .int v10), (11, .int v11), (12, .int v12)], [], me_w (lw M L) J)) rfl k
    by_cases h90 : v3 ≤ v10
    · rw [if_pos h90] at k
      have k := nt_rn_w (a := [(0, .ref (p 0)), (1, .int v1), (2, .int v2), (3, .int v3), (4, .int v4), (5, .int v5), (6, .long v6), (8, .int v8), (9, .int v9), (10, .int v10), (11, .int v11), (12, .int v12)]) (b := [(0, .ref (p 0)), (1, .int v1), (2, .int v2), (3, .int v3), (4, .int v4), (5, .int v5), (6, .long v6), (8, .int v8), (9, .int v9), (10, .int v10), (11, .int v11), (12, .int v12)]) ⟨rfl, rfl, rfl, rfl, rfl, rfl, rfl, rfl, rfl, rfl, rfl, rfl, trivial⟩ rfl k
      rw [x231_87, if_pos h90]
      exact ⟨_, _, _, k⟩
    · rw [if_neg h90] at k
      have k := ly_revb 2 (c' := (95, [(0, .ref (p 0)), (1, .int v1), (2, .int v2), (3, .int v3), (4, .int v4), (5, .int v5), (6, .long v6), (8, .int v8), (9, .int v9), (10, .int v10), (11, .int v11), (12, .int v12)], [.int v1, .ref (p 0)], me_w (lw M L) J)) rfl k
      obtain ⟨d1, o1, ed, kc, k⟩ := lz_c (g := 190) (q := 1) (vs := [.ref (p 0), .int v1]) (rest := []) rfl rfl (by decide) (Or.inr (Or.inl ⟨_, rfl, rfl⟩)) rfl k
      have e1 := xt190 hp hc.1 kc
      subst e1
      have k : nt_rn X _ 231 (98, [(0, .ref (p 0)), (1, .int v1), (2, .int v2), (3, .int v3), (4, .int v4), (5, .int v5), (6, .long v6), (8, .int v8), (9, .int v9), (10, .int v10), (11, .int v11), (12, .int v12)], [], me_w (lw M ((x190 p v1 J L).2)) ((x190 p v1 J L).1)) _ := k
      have k := ly_revb 2 (c' := (101, [(11, .int (Int32.ofInt 0)), (0, .ref (p 0)), (1, .int v1), (2, .int v2), (3, .int v3), (4, .int v4), (5, .int v5), (6, .long v6), (8, .int v8), (9, .int v9), (10, .int v10), (12, .int v12)], [], me_w (lw M ((x190 p v1 J L).2)) ((x190 p v1 J L).1))) rfl k
      have k := nt_rn_w (a := [(11, .int (Int32.ofInt 0)), (0, .ref (p 0)), (1, .int v1), (2, .int v2), (3, .int v3), (4, .int v4), (5, .int v5), (6, .long v6), (8, .int v8), (9, .int v9), (10, .int v10), (12, .int v12)]) (b := [(0, .ref (p 0)), (1, .int v1), (2, .int v2), (3, .int v3), (4, .int v4), (5, .int v5), (6, .long v6), (8, .int v8), (9, .int v9), (10, .int v10), (11, .int (Int32.ofInt 0)), (12, .int v12)]) ⟨rfl, rfl, rfl, rfl, rfl, rfl, rfl, rfl, rfl, rfl, rfl, rfl, trivial⟩ rfl k
      have k := xt231_101 hp  ((((x190 p v1 J L).1) (p 4) 1).toNatClampNeg) v6 (Int32.ofInt 0) v12 ((x190 p v1 J L).1) (⟨xw_190 (hp.2.1 4 0 (by omega) (by omega) (by decide)) hc.1, lx_beg (by decide), by decide⟩) k
      obtain ⟨w11, w12, k⟩ := k
      have k : nt_rn X _ 231 (211, [(0, .ref (p 0)), (1, .int v1), (2, .int v2), (3, .int v3), (4, .int v4), (5, .int v5), (6, .long ((x231_101 p v1 v2 v3 v4 v5 v8 v9 v10 ((x190 p v1 J L).2) ((((x190 p v1 J L).1) (p 4) 1).toNatClampNeg) v6 (Int32.ofInt 0) ((x190 p v1 J L).1)).1)), (8, .int v8), (9, .int v9), (10, .int v10), (11, .int w11), (12, .int w12)], [], me_w (lw M ((x190 p v1 J L).2)) ((x231_101 p v1 v2 v3 v4 v5 v8 v9 v10 ((x190 p v1 J L).2) ((((x190 p v1 J L).1) (p 4) 1).toNatClampNeg) v6 (Int32.ofInt 0) ((x190 p v1 J L).1)).2)) _ := k
      have k := ly_revb 2 (c' := (87, [(10, .int (v10 + (Int32.ofInt 1))), (0, .ref (p 0)), (1, .int v1), (2, .int v2), (3, .int v3), (4, .int v4), (5, .int v5), (6, .long ((x231_101 p v1 v2 v3 v4 v5 v8 v9 v10 ((x190 p v1 J L).2) ((((x190 p v1 J L).1) (p 4) 1).toNatClampNeg) v6 (Int32.ofInt 0) ((x190 p v1 J L).1)).1)), (8, .int v8), (9, .int v9), (11, .int w11), (12, .int w12)], [], me_w (lw M ((x190 p v1 J L).2)) ((x231_101 p v1 v2 v3 v4 v5 v8 v9 v10 ((x190 p v1 J L).2) ((((x190 p v1 J L).1) (p 4) 1).toNatClampNeg) v6 (Int32.ofInt 0) ((x190 p v1 J L).1)).2))) rfl k
      have k := nt_rn_w (a := [(10, .int (v10 + (Int32.ofInt 1))), (0, .ref (p 0)), (1, .int v1), (2, .int v2), (3, .int v3), (4, .int v4), (5, .int v5), (6, .long ((x231_101 p v1 v2 v3 v4 v5 v8 v9 v10 ((x190 p v1 J L).2) ((((x190 p v1 J L).1) (p 4) 1).toNatClampNeg) v6 (Int32.ofInt 0) ((x190 p v1 J L).1)).1)), (8, .int v8), (9, .int v9), (11, .int w11), (12, .int w12)]) (b := [(0, .ref (p 0)), (1, .int v1), (2, .int v2), (3, .int v3), (4, .int v4), (5, .int v5), (6, .long ((x231_101 p v1 v2 v3 v4 v5 v8 v9 v10 ((x190 p v1 J L).2) ((((x190 p v1 J L).1) (p 4) 1).toNatClampNeg) v6 (Int32.ofInt 0) ((x190 p v1 J L).1)).1)), (8, .int v8), (9, .int v9), (10, .int (v10 + (Int32.ofInt 1))), (11, .int w11), (12, .int w12)]) ⟨rfl, rfl, rfl, rfl, rfl, rfl, rfl, rfl, rfl, rfl, rfl, rfl, trivial⟩ rfl k
      have k := ih ((x231_101 p v1 v2 v3 v4 v5 v8 v9 v10 ((x190 p v1 J L).2) ((((x190 p v1 J L).1) (p 4) 1).toNatClampNeg) v6 (Int32.ofInt 0) ((x190 p v1 J L).1)).1) (v10 + (Int32.ofInt 1)) w11 w12 ((x231_101 p v1 v2 v3 v4 v5 v8 v9 v10 ((x190 p v1 J L).2) ((((x190 p v1 J L).1) (p 4) 1).toNatClampNeg) v6 (Int32.ofInt 0) ((x190 p v1 J L).1)).2) ((x190 p v1 J L).2) (⟨xw_101 (xw_190 (hp.2.1 4 0 (by omega) (by omega) (by decide)) hc.1) (by decide), lx_dec h90 hc.2⟩) k
      rw [x231_87, if_neg h90]
      exact k
theorem x231_87_rule {p : Nat → Nat} {v1 : Int32} {v2 : Int32} {v3 : Int32} {v4 : Int32} {v5 : Int32} {v8 : Int32} {v9 : Int32} {I : Nat → Int64 → Int32 → (Nat → Nat → Int32) → (Nat → Nat → Int64) → Prop} {Q : Int64 × (Nat → Nat → Int32) × (Nat → Nat → Int64) → Prop} (h0 : ∀ (v6 : Int64) (v10 : Int32) (J : Nat → Nat → Int32) (L : Nat → Nat → Int64), I 0 v6 v10 J L → Q (v6, J, L)) (h1 : ∀ (c : Nat) (v6 : Int64) (v10 : Int32) (J : Nat → Nat → Int32) (L : Nat → Nat → Int64), I (c + 1) v6 v10 J L →
    if v3 ≤ v10 then (Q (v6, J, L))
    else (I c ((x231_101 p v1 v2 v3 v4 v5 v8 v9 v10 ((x190 p v1 J L).2) ((((x190 p v1 J L).1) (p 4) 1).toNatClampNeg) v6 (Int32.ofInt 0) ((x190 p v1 J L).1)).1) (v10 + (Int32.ofInt 1)) ((x231_101 p v1 v2 v3 v4 v5 v8 v9 v10 ((x190 p v1 J L).2) ((((x190 p v1 J L).1) (p 4) 1).toNatClampNeg) v6 (Int32.ofInt 0) ((x190 p v1 J L).1)).2) ((x190 p v1 J L).2))) : ∀ (c : Nat) (v6 : Int64) (v10 : Int32) (J : Nat → Nat → Int32) (L : Nat → Nat → Int64), I c v6 v10 J L → Q (x231_87 p v1 v2 v3 v4 v5 v8 v9 c v6 v10 J L) := by
  intro c
  induction c with
  | zero =>
    intro v6 v10 J L hi
    rw [x231_87]
    exact h0 v6 v10 J L hi
  | succ c ih =>
    intro v6 v10 J L hi
    have hi := h1 c v6 v10 J L hi
    rw [x231_87]
    by_cases h : v3 ≤ v10
    · rw [if_pos h] at hi ⊢
      exact hi
    · rw [if_neg h] at hi ⊢
      exact ih _ _ _ _ hi
theorem x231_87_frJ {p : Nat → Nat} {v1 : Int32} {v2 : Int32} {v3 : Int32} {v4 : Int32} {v5 : Int32} {v8 : Int32} {v9 : Int32} {b : Nat} : ∀ (c : Nat) (v6 : Int64) (v10 : Int32) (J : Nat → Nat → Int32) (L : Nat → Nat → Int64), b ≠ p 0 → b ≠ p 4 → (x231_87 p v1 v2 v3 v4 v5 v8 v9 c v6 v10 J L).2.1 b = J b := by
  intro c
  induction c with
  | zero =>
    intro v6 v10 J L n0 n1
    rw [x231_87]
    all_goals first | (dsimp only; exact (show J b = J b from rfl)) | exact (show J b = J b from rfl)
  | succ c ih =>
    intro v6 v10 J L n0 n1
    rw [x231_87]
    by_cases h : v3 ≤ v10
    · rw [if_pos h]
      all_goals first | (dsimp only; exact (show J b = J b from rfl)) | exact (show J b = J b from rfl)
    · rw [if_neg h]
      exact (ih _ _ _ _ n0 n1).trans ((x231_101_frJ _ _ _ _ n1).trans (x190_frJ  n0 n1))
theorem x231_87_frL {p : Nat → Nat} {v1 : Int32} {v2 : Int32} {v3 : Int32} {v4 : Int32} {v5 : Int32} {v8 : Int32} {v9 : Int32} {b : Nat} : ∀ (c : Nat) (v6 : Int64) (v10 : Int32) (J : Nat → Nat → Int32) (L : Nat → Nat → Int64), b ≠ p 5 → b ≠ p 6 → (x231_87 p v1 v2 v3 v4 v5 v8 v9 c v6 v10 J L).2.2 b = L b := by
  intro c
  induction c with
  | zero =>
    intro v6 v10 J L n0 n1
    rw [x231_87]
    all_goals first | (dsimp only; exact (show L b = L b from rfl)) | exact (show L b = L b from rfl)
  | succ c ih =>
    intro v6 v10 J L n0 n1
    rw [x231_87]
    by_cases h : v3 ≤ v10
    · rw [if_pos h]
      all_goals first | (dsimp only; exact (show L b = L b from rfl)) | exact (show L b = L b from rfl)
    · rw [if_neg h]
      exact (ih _ _ _ _ n0 n1).trans (x190_frL n0 n1)
def x231_78 (p : Nat → Nat) (v1 : Int32) (v2 : Int32) (v3 : Int32) (v4 : Int32) (v5 : Int32) : Nat → Int64 → Int32 → Int32 → (Nat → Nat → Int32) → (Nat → Nat → Int64) → Int32 × (Nat → Nat → Int32) × (Nat → Nat → Int64)
  | 0, v6, v8, v9, J, L => (v8, J, L)
  | c + 1, v6, v8, v9, J, L => if v2 ≤ v9 then (v8, J, L)
    else if v5 = 0 then (x231_78 p v1 v2 v3 v4 v5 c ((x231_87 p v1 v2 v3 v4 v5 v8 v9 v3.toNatClampNeg v6 (Int32.ofInt 0) J L).1) (v8 + ((((x231_87 p v1 v2 v3 v4 v5 v8 v9 v3.toNatClampNeg v6 (Int32.ofInt 0) J L).2.1) (p 4) 7) - (J (p 7) 7))) (v9 + (Int32.ofInt 1)) (x229 p ((x231_87 p v1 v2 v3 v4 v5 v8 v9 v3.toNatClampNeg v6 (Int32.ofInt 0) J L).2.1)) ((x231_87 p v1 v2 v3 v4 v5 v8 v9 v3.toNatClampNeg v6 (Int32.ofInt 0) J L).2.2))
      else (x231_78 p v1 v2 v3 v4 v5 c ((x231_87 p v1 v2 v3 v4 v5 v8 v9 v3.toNatClampNeg v6 (Int32.ofInt 0) J L).1) (v8 + (x214 (x228 p ((x231_87 p v1 v2 v3 v4 v5 v8 v9 v3.toNatClampNeg v6 (Int32.ofInt 0) J L).2.1)))) (v9 + (Int32.ofInt 1)) (x229 p ((x231_87 p v1 v2 v3 v4 v5 v8 v9 v3.toNatClampNeg v6 (Int32.ofInt 0) J L).2.1)) ((x231_87 p v1 v2 v3 v4 v5 v8 v9 v3.toNatClampNeg v6 (Int32.ofInt 0) J L).2.2))
theorem xt231_78 {X : nt_X} {d : Nat} {M : nt_M} {o : Option Value × nt_M} {p : Nat → Nat} {v1 : Int32} {v2 : Int32} {v3 : Int32} {v4 : Int32} {v5 : Int32} (hp : xs_P M p) : ∀ (c : Nat) (v6 : Int64) (v8 : Int32) (v9 : Int32) (v10 : Int32) (v11 : Int32) (v12 : Int32) (J : Nat → Nat → Int32) (L : Nat → Nat → Int64), (xr_W (J (p 7)) ∧ xr_W (J (p 4)) ∧ v2.toInt - v9.toInt ≤ c) → nt_rn X d 231 (78, [(0, .ref (p 0)), (1, .int v1), (2, .int v2), (3, .int v3), (4, .int v4), (5, .int v5), (6, .long v6), (8, .int v8), (9, .int v9), (10, .int v10), (11, .int v11), (12, .int v12)], [], me_w (lw M L) J) o → o = (some (.int ((x231_78 p v1 v2 v3 v4 v5 c v6 v8 v9 J L).1)), me_w (lw M ((x231_78 p v1 v2 v3 v4 v5 c v6 v8 v9 J L).2.2)) ((x231_78 p v1 v2 v3 v4 v5 c v6 v8 v9 J L).2.1)) := by
  intro c
  induction c with
  | zero =>
    intro v6 v8 v9 v10 v11 v12 J L hc k
    have k := ly_revb 3 (c' := (if v2 ≤ v9 then 262 else 84, [(0, .ref (p 0)), (1, .int v1), (2, .int v2), (3, .int v3), (4, .int v4), (5, .int v5), (6, .long v6), (8, .int v8), (9, .int v9), (10, .int v10), (11, .int v11), (12, .int v12)], [], me_w (lw M L) J)) rfl k
    have h81 : v2 ≤ v9 := lx_end hc.2.2
    rw [if_pos h81] at k
    have k := ly_revb 1 (c' := (264, [(0, .ref (p 0)), (1, .int v1), (2, .int v2), (3, .int v3), (4, .int v4), (5, .int v5), (6, .long v6), (8, .int v8), (9, .int v9), (10, .int v10), (11, .int v11), (12, .int v12)], [.int v8], me_w (lw M L) J)) rfl k
    have k := lz_ri rfl (by decide) k
    rw [k, x231_78]
  | succ c ih =>
    intro v6 v8 v9 v10 v11 v12 J L hc k
    have k := ly_revb 3 (c' := (if v2 ≤ v9 then 262 else 84, [(0, .ref (p 0)), (1, .int v1), (2, .int v2), (3, .int v3), (4, .int v4), (5, .int v5), (6, .long v6), (8, .int v8), (9, .int v9), (10, .int v10), (11, .int v11), (12, .int v12)], [], me_w (lw M L) J)) rfl k
    by_cases h81 : v2 ≤ v9
    · rw [if_pos h81] at k
      have k := ly_revb 1 (c' := (264, [(0, .ref (p 0)), (1, .int v1), (2, .int v2), (3, .int v3), (4, .int v4), (5, .int v5), (6, .long v6), (8, .int v8), (9, .int v9), (10, .int v10), (11, .int v11), (12, .int v12)], [.int v8], me_w (lw M L) J)) rfl k
      have k := lz_ri rfl (by decide) k
      rw [k, x231_78, if_pos h81]
    · rw [if_neg h81] at k
      have k := ly_revb 2 (c' := (87, [(10, .int (Int32.ofInt 0)), (0, .ref (p 0)), (1, .int v1), (2, .int v2), (3, .int v3), (4, .int v4), (5, .int v5), (6, .long v6), (8, .int v8), (9, .int v9), (11, .int v11), (12, .int v12)], [], me_w (lw M L) J)) rfl k
      have k := nt_rn_w (a := [(10, .int (Int32.ofInt 0)), (0, .ref (p 0)), (1, .int v1), (2, .int v2), (3, .int v3), (4, .int v4), (5, .int v5), (6, .long v6), (8, .int v8), (9, .int v9), (11, .int v11), (12, .int v12)]) (b := [(0, .ref (p 0)), (1, .int v1), (2, .int v2), (3, .int v3), (4, .int v4), (5, .int v5), (6, .long v6), (8, .int v8), (9, .int v9), (10, .int (Int32.ofInt 0)), (11, .int v11), (12, .int v12)]) ⟨rfl, rfl, rfl, rfl, rfl, rfl, rfl, rfl, rfl, rfl, rfl, rfl, trivial⟩ rfl k
      have k := xt231_87 hp  v3.toNatClampNeg v6 (Int32.ofInt 0) v11 v12 J L (⟨hc.2.1, lx_beg (by decide)⟩) k
      obtain ⟨w10, w11, w12, k⟩ := k
      have k : nt_rn X _ 231 (217, [(0, .ref (p 0)), (1, .int v1), (2, .int v2), (3, .int v3), (4, .int v4), (5, .int v5), (6, .long ((x231_87 p v1 v2 v3 v4 v5 v8 v9 v3.toNatClampNeg v6 (Int32.ofInt 0) J L).1)), (8, .int v8), (9, .int v9), (10, .int w10), (11, .int w11), (12, .int w12)], [], me_w (lw M ((x231_87 p v1 v2 v3 v4 v5 v8 v9 v3.toNatClampNeg v6 (Int32.ofInt 0) J L).2.2)) ((x231_87 p v1 v2 v3 v4 v5 v8 v9 v3.toNatClampNeg v6 (Int32.ofInt 0) J L).2.1)) _ := k
      have k := ly_revb 3 (c' := (if v5 = 0 then 224 else 242, [(0, .ref (p 0)), (1, .int v1), (2, .int v2), (3, .int v3), (4, .int v4), (5, .int v5), (6, .long ((x231_87 p v1 v2 v3 v4 v5 v8 v9 v3.toNatClampNeg v6 (Int32.ofInt 0) J L).1)), (8, .int v8), (9, .int v9), (10, .int w10), (11, .int w11), (12, .int w12)], [.int v8], me_w (lw M ((x231_87 p v1 v2 v3 v4 v5 v8 v9 v3.toNatClampNeg v6 (Int32.ofInt 0) J L).2.2)) ((x231_87 p v1 v2 v3 v4 v5 v8 v9 v3.toNatClampNeg v6 (Int32.ofInt 0) J L).2.1))) rfl k
      by_cases h221 : v5 = 0
      · rw [if_pos h221] at k
        have k := ly_revb 1 (c' := (225, [(0, .ref (p 0)), (1, .int v1), (2, .int v2), (3, .int v3), (4, .int v4), (5, .int v5), (6, .long ((x231_87 p v1 v2 v3 v4 v5 v8 v9 v3.toNatClampNeg v6 (Int32.ofInt 0) J L).1)), (8, .int v8), (9, .int v9), (10, .int w10), (11, .int w11), (12, .int w12)], [.ref (p 0), .int v8], me_w (lw M ((x231_87 p v1 v2 v3 v4 v5 v8 v9 v3.toNatClampNeg v6 (Int32.ofInt 0) J L).2.2)) ((x231_87 p v1 v2 v3 v4 v5 v8 v9 v3.toNatClampNeg v6 (Int32.ofInt 0) J L).2.1))) rfl k
        have k := lz_get (a := (p 0)) (g := 1127) (M := me_w (lw M ((x231_87 p v1 v2 v3 v4 v5 v8 v9 v3.toNatClampNeg v6 (Int32.ofInt 0) J L).2.2)) ((x231_87 p v1 v2 v3 v4 v5 v8 v9 v3.toNatClampNeg v6 (Int32.ofInt 0) J L).2.1)) (v := .ref (p 4)) rfl (nt_gfR rfl (mw_RL (hp.1 (0, 27, 4) (by decide)))) k
        have k := ly_revb 1 (c' := (230, [(0, .ref (p 0)), (1, .int v1), (2, .int v2), (3, .int v3), (4, .int v4), (5, .int v5), (6, .long ((x231_87 p v1 v2 v3 v4 v5 v8 v9 v3.toNatClampNeg v6 (Int32.ofInt 0) J L).1)), (8, .int v8), (9, .int v9), (10, .int w10), (11, .int w11), (12, .int w12)], [.int (Int32.ofInt 7), .ref (p 4), .int v8], me_w (lw M ((x231_87 p v1 v2 v3 v4 v5 v8 v9 v3.toNatClampNeg v6 (Int32.ofInt 0) J L).2.2)) ((x231_87 p v1 v2 v3 v4 v5 v8 v9 v3.toNatClampNeg v6 (Int32.ofInt 0) J L).2.1))) rfl k
        have k := mx_iald (v := ((x231_87 p v1 v2 v3 v4 v5 v8 v9 v3.toNatClampNeg v6 (Int32.ofInt 0) J L).2.1) (p 4) 7) rfl (hp.2.2.1 4 (by omega)) ((congrArg (((x231_87 p v1 v2 v3 v4 v5 v8 v9 v3.toNatClampNeg v6 (Int32.ofInt 0) J L).2.1) (p 4)) (show (Int32.ofInt 7).toNatClampNeg = 7 from rfl)).trans (rfl)) k
        have k := ly_revb 1 (c' := (232, [(0, .ref (p 0)), (1, .int v1), (2, .int v2), (3, .int v3), (4, .int v4), (5, .int v5), (6, .long ((x231_87 p v1 v2 v3 v4 v5 v8 v9 v3.toNatClampNeg v6 (Int32.ofInt 0) J L).1)), (8, .int v8), (9, .int v9), (10, .int w10), (11, .int w11), (12, .int w12)], [.ref (p 0), .int (((x231_87 p v1 v2 v3 v4 v5 v8 v9 v3.toNatClampNeg v6 (Int32.ofInt 0) J L).2.1) (p 4) 7), .int v8], me_w (lw M ((x231_87 p v1 v2 v3 v4 v5 v8 v9 v3.toNatClampNeg v6 (Int32.ofInt 0) J L).2.2)) ((x231_87 p v1 v2 v3 v4 v5 v8 v9 v3.toNatClampNeg v6 (Int32.ofInt 0) J L).2.1))) rfl k
        have k := lz_get (a := (p 0)) (g := 1128) (M := me_w (lw M ((x231_87 p v1 v2 v3 v4 v5 v8 v9 v3.toNatClampNeg v6 (Int32.ofInt 0) J L).2.2)) ((x231_87 p v1 v2 v3 v4 v5 v8 v9 v3.toNatClampNeg v6 (Int32.ofInt 0) J L).2.1)) (v := .ref (p 7)) rfl (nt_gfR rfl (mw_RL (hp.1 (0, 28, 7) (by decide)))) k
        have k := ly_revb 1 (c' := (237, [(0, .ref (p 0)), (1, .int v1), (2, .int v2), (3, .int v3), (4, .int v4), (5, .int v5), (6, .long ((x231_87 p v1 v2 v3 v4 v5 v8 v9 v3.toNatClampNeg v6 (Int32.ofInt 0) J L).1)), (8, .int v8), (9, .int v9), (10, .int w10), (11, .int w11), (12, .int w12)], [.int (Int32.ofInt 7), .ref (p 7), .int (((x231_87 p v1 v2 v3 v4 v5 v8 v9 v3.toNatClampNeg v6 (Int32.ofInt 0) J L).2.1) (p 4) 7), .int v8], me_w (lw M ((x231_87 p v1 v2 v3 v4 v5 v8 v9 v3.toNatClampNeg v6 (Int32.ofInt 0) J L).2.2)) ((x231_87 p v1 v2 v3 v4 v5 v8 v9 v3.toNatClampNeg v6 (Int32.ofInt 0) J L).2.1))) rfl k
        have k := mx_iald (v := J (p 7) 7) rfl (hp.2.2.1 7 (by omega)) ((congrArg (((x231_87 p v1 v2 v3 v4 v5 v8 v9 v3.toNatClampNeg v6 (Int32.ofInt 0) J L).2.1) (p 7)) (show (Int32.ofInt 7).toNatClampNeg = 7 from rfl)).trans (congrFun (x231_87_frJ _ _ _ _ _ (hp.2.1 7 0 (by omega) (by omega) (by decide)) (hp.2.1 7 4 (by omega) (by omega) (by decide))) 7)) k
        have k := ly_revb 5 (c' := (253, [(8, .int (v8 + ((((x231_87 p v1 v2 v3 v4 v5 v8 v9 v3.toNatClampNeg v6 (Int32.ofInt 0) J L).2.1) (p 4) 7) - (J (p 7) 7)))), (0, .ref (p 0)), (1, .int v1), (2, .int v2), (3, .int v3), (4, .int v4), (5, .int v5), (6, .long ((x231_87 p v1 v2 v3 v4 v5 v8 v9 v3.toNatClampNeg v6 (Int32.ofInt 0) J L).1)), (9, .int v9), (10, .int w10), (11, .int w11), (12, .int w12)], [.ref (p 0)], me_w (lw M ((x231_87 p v1 v2 v3 v4 v5 v8 v9 v3.toNatClampNeg v6 (Int32.ofInt 0) J L).2.2)) ((x231_87 p v1 v2 v3 v4 v5 v8 v9 v3.toNatClampNeg v6 (Int32.ofInt 0) J L).2.1))) rfl k
        obtain ⟨d1, o1, ed, kc, k⟩ := lz_c (g := 229) (q := 1) (vs := [.ref (p 0)]) (rest := []) rfl rfl (by decide) (Or.inr (Or.inl ⟨_, rfl, rfl⟩)) rfl k
        have e1 := xt229 (xs_lp hp) kc
        subst e1
        have k : nt_rn X _ 231 (256, [(8, .int (v8 + ((((x231_87 p v1 v2 v3 v4 v5 v8 v9 v3.toNatClampNeg v6 (Int32.ofInt 0) J L).2.1) (p 4) 7) - (J (p 7) 7)))), (0, .ref (p 0)), (1, .int v1), (2, .int v2), (3, .int v3), (4, .int v4), (5, .int v5), (6, .long ((x231_87 p v1 v2 v3 v4 v5 v8 v9 v3.toNatClampNeg v6 (Int32.ofInt 0) J L).1)), (9, .int v9), (10, .int w10), (11, .int w11), (12, .int w12)], [], me_w (lw M ((x231_87 p v1 v2 v3 v4 v5 v8 v9 v3.toNatClampNeg v6 (Int32.ofInt 0) J L).2.2)) (x229 p ((x231_87 p v1 v2 v3 v4 v5 v8 v9 v3.toNatClampNeg v6 (Int32.ofInt 0) J L).2.1))) _ := k
        have k := ly_revb 2 (c' := (78, [(9, .int (v9 + (Int32.ofInt 1))), (8, .int (v8 + ((((x231_87 p v1 v2 v3 v4 v5 v8 v9 v3.toNatClampNeg v6 (Int32.ofInt 0) J L).2.1) (p 4) 7) - (J (p 7) 7)))), (0, .ref (p 0)), (1, .int v1), (2, .int v2), (3, .int v3), (4, .int v4), (5, .int v5), (6, .long ((x231_87 p v1 v2 v3 v4 v5 v8 v9 v3.toNatClampNeg v6 (Int32.ofInt 0) J L).1)), (10, .int w10), (11, .int w11), (12, .int w12)], [], me_w (lw M ((x231_87 p v1 v2 v3 v4 v5 v8 v9 v3.toNatClampNeg v6 (Int32.ofInt 0) J L).2.2)) (x229 p ((x231_87 p v1 v2 v3 v4 v5 v8 v9 v3.toNatClampNeg v6 (Int32.ofInt 0) J L).2.1)))) rfl k
        have k := nt_rn_w (a := [(9, .int (v9 + (Int32.ofInt 1))), (8, .int (v8 + ((((x231_87 p v1 v2 v3 v4 v5 v8 v9 v3.toNatClampNeg v6 (Int32.ofInt 0) J L).2.1) (p 4) 7) - (J (p 7) 7)))), (0, .ref (p 0)), (1, .int v1), (2, .int v2), (3, .int v3), (4, .int v4), (5, .int v5), (6, .long ((x231_87 p v1 v2 v3 v4 v5 v8 v9 v3.toNatClampNeg v6 (Int32.ofInt 0) J L).1)), (10, .int w10), (11, .int w11), (12, .int w12)]) (b := [(0, .ref (p 0)), (1, .int v1), (2, .int v2), (3, .int v3), (4, .int v4), (5, .int v5), (6, .long ((x231_87 p v1 v2 v3 v4 v5 v8 v9 v3.toNatClampNeg v6 (Int32.ofInt 0) J L).1)), (8, .int (v8 + ((((x231_87 p v1 v2 v3 v4 v5 v8 v9 v3.toNatClampNeg v6 (Int32.ofInt 0) J L).2.1) (p 4) 7) - (J (p 7) 7)))), (9, .int (v9 + (Int32.ofInt 1))), (10, .int w10), (11, .int w11), (12, .int w12)]) ⟨rfl, rfl, rfl, rfl, rfl, rfl, rfl, rfl, rfl, rfl, rfl, rfl, trivial⟩ rfl k
        have k := ih ((x231_87 p v1 v2 v3 v4 v5 v8 v9 v3.toNatClampNeg v6 (Int32.ofInt 0) J L).1) (v8 + ((((x231_87 p v1 v2 v3 v4 v5 v8 v9 v3.toNatClampNeg v6 (Int32.ofInt 0) J L).2.1) (p 4) 7) - (J (p 7) 7))) (v9 + (Int32.ofInt 1)) w10 w11 w12 (x229 p ((x231_87 p v1 v2 v3 v4 v5 v8 v9 v3.toNatClampNeg v6 (Int32.ofInt 0) J L).2.1)) ((x231_87 p v1 v2 v3 v4 v5 v8 v9 v3.toNatClampNeg v6 (Int32.ofInt 0) J L).2.2) (⟨by rw [x229_frJ (hp.2.1 7 4 (by omega) (by omega) (by decide)), x231_87_frJ _ _ _ _ _ (hp.2.1 7 0 (by omega) (by omega) (by decide)) (hp.2.1 7 4 (by omega) (by omega) (by decide))]; exact hc.1, xw_229 (hp.2.1 7 4 (by omega) (by omega) (by decide)) (by rw [x231_87_frJ _ _ _ _ _ (hp.2.1 7 0 (by omega) (by omega) (by decide)) (hp.2.1 7 4 (by omega) (by omega) (by decide))]; exact hc.1), lx_dec h81 hc.2.2⟩) k
        rw [k, x231_78, if_neg h81, if_pos h221]
      · rw [if_neg h221] at k
        have k := ly_revb 1 (c' := (243, [(0, .ref (p 0)), (1, .int v1), (2, .int v2), (3, .int v3), (4, .int v4), (5, .int v5), (6, .long ((x231_87 p v1 v2 v3 v4 v5 v8 v9 v3.toNatClampNeg v6 (Int32.ofInt 0) J L).1)), (8, .int v8), (9, .int v9), (10, .int w10), (11, .int w11), (12, .int w12)], [.ref (p 0), .int v8], me_w (lw M ((x231_87 p v1 v2 v3 v4 v5 v8 v9 v3.toNatClampNeg v6 (Int32.ofInt 0) J L).2.2)) ((x231_87 p v1 v2 v3 v4 v5 v8 v9 v3.toNatClampNeg v6 (Int32.ofInt 0) J L).2.1))) rfl k
        obtain ⟨d1, o1, ed, kc, k⟩ := lz_c (g := 228) (q := 1) (vs := [.ref (p 0)]) (rest := [.int v8]) rfl rfl (by decide) (Or.inr (Or.inl ⟨_, rfl, rfl⟩)) rfl k
        have e1 := xt228 (xs_lp hp) kc
        subst e1
        have k : nt_rn X _ 231 (246, [(0, .ref (p 0)), (1, .int v1), (2, .int v2), (3, .int v3), (4, .int v4), (5, .int v5), (6, .long ((x231_87 p v1 v2 v3 v4 v5 v8 v9 v3.toNatClampNeg v6 (Int32.ofInt 0) J L).1)), (8, .int v8), (9, .int v9), (10, .int w10), (11, .int w11), (12, .int w12)], [.int (x228 p ((x231_87 p v1 v2 v3 v4 v5 v8 v9 v3.toNatClampNeg v6 (Int32.ofInt 0) J L).2.1)), .int v8], me_w (lw M ((x231_87 p v1 v2 v3 v4 v5 v8 v9 v3.toNatClampNeg v6 (Int32.ofInt 0) J L).2.2)) ((x231_87 p v1 v2 v3 v4 v5 v8 v9 v3.toNatClampNeg v6 (Int32.ofInt 0) J L).2.1)) _ := k
        obtain ⟨d1, o1, ed, kc, k⟩ := lz_c (g := 214) (q := 0) (vs := [.int (x228 p ((x231_87 p v1 v2 v3 v4 v5 v8 v9 v3.toNatClampNeg v6 (Int32.ofInt 0) J L).2.1))]) (rest := [.int v8]) rfl rfl (by decide) (Or.inl ⟨_, rfl, rfl⟩) rfl k
        have e1 := xt214  kc
        subst e1
        have k : nt_rn X _ 231 (249, [(0, .ref (p 0)), (1, .int v1), (2, .int v2), (3, .int v3), (4, .int v4), (5, .int v5), (6, .long ((x231_87 p v1 v2 v3 v4 v5 v8 v9 v3.toNatClampNeg v6 (Int32.ofInt 0) J L).1)), (8, .int v8), (9, .int v9), (10, .int w10), (11, .int w11), (12, .int w12)], [.int (x214 (x228 p ((x231_87 p v1 v2 v3 v4 v5 v8 v9 v3.toNatClampNeg v6 (Int32.ofInt 0) J L).2.1))), .int v8], me_w (lw M ((x231_87 p v1 v2 v3 v4 v5 v8 v9 v3.toNatClampNeg v6 (Int32.ofInt 0) J L).2.2)) ((x231_87 p v1 v2 v3 v4 v5 v8 v9 v3.toNatClampNeg v6 (Int32.ofInt 0) J L).2.1)) _ := k
        have k := ly_revb 3 (c' := (253, [(8, .int (v8 + (x214 (x228 p ((x231_87 p v1 v2 v3 v4 v5 v8 v9 v3.toNatClampNeg v6 (Int32.ofInt 0) J L).2.1))))), (0, .ref (p 0)), (1, .int v1), (2, .int v2), (3, .int v3), (4, .int v4), (5, .int v5), (6, .long ((x231_87 p v1 v2 v3 v4 v5 v8 v9 v3.toNatClampNeg v6 (Int32.ofInt 0) J L).1)), (9, .int v9), (10, .int w10), (11, .int w11), (12, .int w12)], [.ref (p 0)], me_w (lw M ((x231_87 p v1 v2 v3 v4 v5 v8 v9 v3.toNatClampNeg v6 (Int32.ofInt 0) J L).2.2)) ((x231_87 p v1 v2 v3 v4 v5 v8 v9 v3.toNatClampNeg v6 (Int32.ofInt 0) J L).2.1))) rfl k
        obtain ⟨d1, o1, ed, kc, k⟩ := lz_c (g := 229) (q := 1) (vs := [.ref (p 0)]) (rest := []) rfl rfl (by decide) (Or.inr (Or.inl ⟨_, rfl, rfl⟩)) rfl k
        have e1 := xt229 (xs_lp hp) kc
        subst e1
        have k : nt_rn X _ 231 (256, [(8, .int (v8 + (x214 (x228 p ((x231_87 p v1 v2 v3 v4 v5 v8 v9 v3.toNatClampNeg v6 (Int32.ofInt 0) J L).2.1))))), (0, .ref (p 0)), (1, .int v1), (2, .int v2), (3, .int v3), (4, .int v4), (5, .int v5), (6, .long ((x231_87 p v1 v2 v3 v4 v5 v8 v9 v3.toNatClampNeg v6 (Int32.ofInt 0) J L).1)), (9, .int v9), (10, .int w10), (11, .int w11), (12, .int w12)], [], me_w (lw M ((x231_87 p v1 v2 v3 v4 v5 v8 v9 v3.toNatClampNeg v6 (Int32.ofInt 0) J L).2.2)) (x229 p ((x231_87 p v1 v2 v3 v4 v5 v8 v9 v3.toNatClampNeg v6 (Int32.ofInt 0) J L).2.1))) _ := k
        have k := ly_revb 2 (c' := (78, [(9, .int (v9 + (Int32.ofInt 1))), (8, .int (v8 + (x214 (x228 p ((x231_87 p v1 v2 v3 v4 v5 v8 v9 v3.toNatClampNeg v6 (Int32.ofInt 0) J L).2.1))))), (0, .ref (p 0)), (1, .int v1), (2, .int v2), (3, .int v3), (4, .int v4), (5, .int v5), (6, .long ((x231_87 p v1 v2 v3 v4 v5 v8 v9 v3.toNatClampNeg v6 (Int32.ofInt 0) J L).1)), (10, .int w10), (11, .int w11), (12, .int w12)], [], me_w (lw M ((x231_87 p v1 v2 v3 v4 v5 v8 v9 v3.toNatClampNeg v6 (Int32.ofInt 0) J L).2.2)) (x229 p ((x231_87 p v1 v2 v3 v4 v5 v8 v9 v3.toNatClampNeg v6 (Int32.ofInt 0) J L).2.1)))) rfl k
        have k := nt_rn_w (a := [(9, .int (v9 + (Int32.ofInt 1))), (8, .int (v8 + (x214 (x228 p ((x231_87 p v1 v2 v3 v4 v5 v8 v9 v3.toNatClampNeg v6 (Int32.ofInt 0) J L).2.1))))), (0, .ref (p 0)), (1, .int v1), (2, .int v2), (3, .int v3), (4, .int v4), (5, .int v5), (6, .long ((x231_87 p v1 v2 v3 v4 v5 v8 v9 v3.toNatClampNeg v6 (Int32.ofInt 0) J L).1)), (10, .int w10), (11, .int w11), (12, .int w12)]) (b := [(0, .ref (p 0)), (1, .int v1), (2, .int v2), (3, .int v3), (4, .int v4), (5, .int v5), (6, .long ((x231_87 p v1 v2 v3 v4 v5 v8 v9 v3.toNatClampNeg v6 (Int32.ofInt 0) J L).1)), (8, .int (v8 + (x214 (x228 p ((x231_87 p v1 v2 v3 v4 v5 v8 v9 v3.toNatClampNeg v6 (Int32.ofInt 0) J L).2.1))))), (9, .int (v9 + (Int32.ofInt 1))), (10, .int w10), (11, .int w11), (12, .int w12)]) ⟨rfl, rfl, rfl, rfl, rfl, rfl, rfl, rfl, rfl, rfl, rfl, rfl, trivial⟩ rfl k
        have k := ih ((x231_87 p v1 v2 v3 v4 v5 v8 v9 v3.toNatClampNeg v6 (Int32.ofInt 0) J L).1) (v8 + (x214 (x228 p ((x231_87 p v1 v2 v3 v4 v5 v8 v9 v3.toNatClampNeg v6 (Int32.ofInt 0) J L).2.1)))) (v9 + (Int32.ofInt 1)) w10 w11 w12 (x229 p ((x231_87 p v1 v2 v3 v4 v5 v8 v9 v3.toNatClampNeg v6 (Int32.ofInt 0) J L).2.1)) ((x231_87 p v1 v2 v3 v4 v5 v8 v9 v3.toNatClampNeg v6 (Int32.ofInt 0) J L).2.2) (⟨by rw [x229_frJ (hp.2.1 7 4 (by omega) (by omega) (by decide)), x231_87_frJ _ _ _ _ _ (hp.2.1 7 0 (by omega) (by omega) (by decide)) (hp.2.1 7 4 (by omega) (by omega) (by decide))]; exact hc.1, xw_229 (hp.2.1 7 4 (by omega) (by omega) (by decide)) (by rw [x231_87_frJ _ _ _ _ _ (hp.2.1 7 0 (by omega) (by omega) (by decide)) (hp.2.1 7 4 (by omega) (by omega) (by decide))]; exact hc.1), lx_dec h81 hc.2.2⟩) k
        rw [k, x231_78, if_neg h81, if_neg h221]
theorem x231_78_rule {p : Nat → Nat} {v1 : Int32} {v2 : Int32} {v3 : Int32} {v4 : Int32} {v5 : Int32} {I : Nat → Int64 → Int32 → Int32 → (Nat → Nat → Int32) → (Nat → Nat → Int64) → Prop} {Q : Int32 × (Nat → Nat → Int32) × (Nat → Nat → Int64) → Prop} (h0 : ∀ (v6 : Int64) (v8 : Int32) (v9 : Int32) (J : Nat → Nat → Int32) (L : Nat → Nat → Int64), I 0 v6 v8 v9 J L → Q (v8, J, L)) (h1 : ∀ (c : Nat) (v6 : Int64) (v8 : Int32) (v9 : Int32) (J : Nat → Nat → Int32) (L : Nat → Nat → Int64), I (c + 1) v6 v8 v9 J L →
    if v2 ≤ v9 then (Q (v8, J, L))
    else if v5 = 0 then (I c ((x231_87 p v1 v2 v3 v4 v5 v8 v9 v3.toNatClampNeg v6 (Int32.ofInt 0) J L).1) (v8 + ((((x231_87 p v1 v2 v3 v4 v5 v8 v9 v3.toNatClampNeg v6 (Int32.ofInt 0) J L).2.1) (p 4) 7) - (J (p 7) 7))) (v9 + (Int32.ofInt 1)) (x229 p ((x231_87 p v1 v2 v3 v4 v5 v8 v9 v3.toNatClampNeg v6 (Int32.ofInt 0) J L).2.1)) ((x231_87 p v1 v2 v3 v4 v5 v8 v9 v3.toNatClampNeg v6 (Int32.ofInt 0) J L).2.2))
      else (I c ((x231_87 p v1 v2 v3 v4 v5 v8 v9 v3.toNatClampNeg v6 (Int32.ofInt 0) J L).1) (v8 + (x214 (x228 p ((x231_87 p v1 v2 v3 v4 v5 v8 v9 v3.toNatClampNeg v6 (Int32.ofInt 0) J L).2.1)))) (v9 + (Int32.ofInt 1)) (x229 p ((x231_87 p v1 v2 v3 v4 v5 v8 v9 v3.toNatClampNeg v6 (Int32.ofInt 0) J L).2.1)) ((x231_87 p v1 v2 v3 v4 v5 v8 v9 v3.toNatClampNeg v6 (Int32.ofInt 0) J L).2.2))) : ∀ (c : Nat) (v6 : Int64) (v8 : Int32) (v9 : Int32) (J : Nat → Nat → Int32) (L : Nat → Nat → Int64), I c v6 v8 v9 J L → Q (x231_78 p v1 v2 v3 v4 v5 c v6 v8 v9 J L) := by
  intro c
  induction c with
  | zero =>
    intro v6 v8 v9 J L hi
    rw [x231_78]
    exact h0 v6 v8 v9 J L hi
  | succ c ih =>
    intro v6 v8 v9 J L hi
    have hi := h1 c v6 v8 v9 J L hi
    rw [x231_78]
    by_cases h : v2 ≤ v9
    · rw [if_pos h] at hi ⊢
      exact hi
    · rw [if_neg h] at hi ⊢
      by_cases h : v5 = 0
      · rw [if_pos h] at hi ⊢
        exact ih _ _ _ _ _ hi
      · rw [if_neg h] at hi ⊢
        exact ih _ _ _ _ _ hi
def x231 (p : Nat → Nat) (v1 : Int32) (v2 : Int32) (v3 : Int32) (v4 : Int32) (v5 : Int32) (J : Nat → Nat → Int32) (L : Nat → Nat → Int64) : Int32 × (Nat → Nat → Int32) × (Nat → Nat → Int64) := if (x187 p v1 J) = 0 then (Int32.ofInt (-1), J, L)
  else if (x145 v2.toInt64 (Int64.ofNat 1) 20) = 0 then (Int32.ofInt (-1), J, L)
    else if (x145 v3.toInt64 (Int64.ofNat 1) 100) = 0 then (Int32.ofInt (-1), J, L)
      else if (x145 v4.toInt64 (Int64.ofNat 0) 100) = 0 then (Int32.ofInt (-1), J, L)
        else if (x145 v5.toInt64 (Int64.ofNat 0) (Int64.ofNat 1)) = 0 then (Int32.ofInt (-1), J, L)
          else (x231_78 p v1 v2 v3 v4 v5 v2.toNatClampNeg ((J (p 4) 9).toInt64) (Int32.ofInt 0) (Int32.ofInt 0) (x227 p J) L)
theorem xt231 {X : nt_X} {d : Nat} {M : nt_M} {o : Option Value × nt_M} {p : Nat → Nat} {v1 : Int32} {v2 : Int32} {v3 : Int32} {v4 : Int32} {v5 : Int32} {J : Nat → Nat → Int32} {L : Nat → Nat → Int64} (hp : xs_P M p) (hw : xr_W (J (p 4))) (k : nt_ev X d 231 [.ref (p 0), .int v1, .int v2, .int v3, .int v4, .int v5] (me_w (lw M L) J) o) : o = (some (.int ((x231 p v1 v2 v3 v4 v5 J L).1)), me_w (lw M ((x231 p v1 v2 v3 v4 v5 J L).2.2)) ((x231 p v1 v2 v3 v4 v5 J L).2.1)) := by
  have k : nt_rn X d 231 (0, [(0, .ref (p 0)), (1, .int v1), (2, .int v2), (3, .int v3), (4, .int v4), (5, .int v5)], [], me_w (lw M L) J) o := k
  have k := ly_revb 2 (c' := (2, [(0, .ref (p 0)), (1, .int v1), (2, .int v2), (3, .int v3), (4, .int v4), (5, .int v5)], [.int v1, .ref (p 0)], me_w (lw M L) J)) rfl k
  obtain ⟨d1, o1, ed, kc, k⟩ := lz_c (g := 187) (q := 1) (vs := [.ref (p 0), .int v1]) (rest := []) rfl rfl (by decide) (Or.inr (Or.inl ⟨_, rfl, rfl⟩)) rfl k
  have e1 := xt187 (xs_lp hp) kc
  subst e1
  have k : nt_rn X _ 231 (5, [(0, .ref (p 0)), (1, .int v1), (2, .int v2), (3, .int v3), (4, .int v4), (5, .int v5)], [.int (x187 p v1 J)], me_w (lw M L) J) _ := k
  have k := ly_revb 1 (c' := (if (x187 p v1 J) = 0 then 56 else 8, [(0, .ref (p 0)), (1, .int v1), (2, .int v2), (3, .int v3), (4, .int v4), (5, .int v5)], [], me_w (lw M L) J)) rfl k
  by_cases h5 : (x187 p v1 J) = 0
  · rw [if_pos h5] at k
    have k := ly_revb 1 (c' := (57, [(0, .ref (p 0)), (1, .int v1), (2, .int v2), (3, .int v3), (4, .int v4), (5, .int v5)], [.int (Int32.ofInt (-1))], me_w (lw M L) J)) rfl k
    have k := lz_ri rfl (by decide) k
    rw [k, x231, if_pos h5]
  · rw [if_neg h5] at k
    have k := ly_revb 4 (c' := (14, [(0, .ref (p 0)), (1, .int v1), (2, .int v2), (3, .int v3), (4, .int v4), (5, .int v5)], [.long 20, .long (Int64.ofNat 1), .long v2.toInt64], me_w (lw M L) J)) rfl k
    obtain ⟨d1, o1, ed, kc, k⟩ := lz_c (g := 145) (q := 0) (vs := [.long v2.toInt64, .long (Int64.ofNat 1), .long 20]) (rest := []) rfl rfl (by decide) (Or.inl ⟨_, rfl, rfl⟩) rfl k
    have e1 := xt145  kc
    subst e1
    have k : nt_rn X _ 231 (17, [(0, .ref (p 0)), (1, .int v1), (2, .int v2), (3, .int v3), (4, .int v4), (5, .int v5)], [.int (x145 v2.toInt64 (Int64.ofNat 1) 20)], me_w (lw M L) J) _ := k
    have k := ly_revb 1 (c' := (if (x145 v2.toInt64 (Int64.ofNat 1) 20) = 0 then 56 else 20, [(0, .ref (p 0)), (1, .int v1), (2, .int v2), (3, .int v3), (4, .int v4), (5, .int v5)], [], me_w (lw M L) J)) rfl k
    by_cases h17 : (x145 v2.toInt64 (Int64.ofNat 1) 20) = 0
    · rw [if_pos h17] at k
      have k := ly_revb 1 (c' := (57, [(0, .ref (p 0)), (1, .int v1), (2, .int v2), (3, .int v3), (4, .int v4), (5, .int v5)], [.int (Int32.ofInt (-1))], me_w (lw M L) J)) rfl k
      have k := lz_ri rfl (by decide) k
      rw [k, x231, if_neg h5, if_pos h17]
    · rw [if_neg h17] at k
      have k := ly_revb 4 (c' := (26, [(0, .ref (p 0)), (1, .int v1), (2, .int v2), (3, .int v3), (4, .int v4), (5, .int v5)], [.long 100, .long (Int64.ofNat 1), .long v3.toInt64], me_w (lw M L) J)) rfl k
      obtain ⟨d1, o1, ed, kc, k⟩ := lz_c (g := 145) (q := 0) (vs := [.long v3.toInt64, .long (Int64.ofNat 1), .long 100]) (rest := []) rfl rfl (by decide) (Or.inl ⟨_, rfl, rfl⟩) rfl k
      have e1 := xt145  kc
      subst e1
      have k : nt_rn X _ 231 (29, [(0, .ref (p 0)), (1, .int v1), (2, .int v2), (3, .int v3), (4, .int v4), (5, .int v5)], [.int (x145 v3.toInt64 (Int64.ofNat 1) 100)], me_w (lw M L) J) _ := k
      have k := ly_revb 1 (c' := (if (x145 v3.toInt64 (Int64.ofNat 1) 100) = 0 then 56 else 32, [(0, .ref (p 0)), (1, .int v1), (2, .int v2), (3, .int v3), (4, .int v4), (5, .int v5)], [], me_w (lw M L) J)) rfl k
      by_cases h29 : (x145 v3.toInt64 (Int64.ofNat 1) 100) = 0
      · rw [if_pos h29] at k
        have k := ly_revb 1 (c' := (57, [(0, .ref (p 0)), (1, .int v1), (2, .int v2), (3, .int v3), (4, .int v4), (5, .int v5)], [.int (Int32.ofInt (-1))], me_w (lw M L) J)) rfl k
        have k := lz_ri rfl (by decide) k
        rw [k, x231, if_neg h5, if_neg h17, if_pos h29]
      · rw [if_neg h29] at k
        have k := ly_revb 4 (c' := (39, [(0, .ref (p 0)), (1, .int v1), (2, .int v2), (3, .int v3), (4, .int v4), (5, .int v5)], [.long 100, .long (Int64.ofNat 0), .long v4.toInt64], me_w (lw M L) J)) rfl k
        obtain ⟨d1, o1, ed, kc, k⟩ := lz_c (g := 145) (q := 0) (vs := [.long v4.toInt64, .long (Int64.ofNat 0), .long 100]) (rest := []) rfl rfl (by decide) (Or.inl ⟨_, rfl, rfl⟩) rfl k
        have e1 := xt145  kc
        subst e1
        have k : nt_rn X _ 231 (42, [(0, .ref (p 0)), (1, .int v1), (2, .int v2), (3, .int v3), (4, .int v4), (5, .int v5)], [.int (x145 v4.toInt64 (Int64.ofNat 0) 100)], me_w (lw M L) J) _ := k
        have k := ly_revb 1 (c' := (if (x145 v4.toInt64 (Int64.ofNat 0) 100) = 0 then 56 else 45, [(0, .ref (p 0)), (1, .int v1), (2, .int v2), (3, .int v3), (4, .int v4), (5, .int v5)], [], me_w (lw M L) J)) rfl k
        by_cases h42 : (x145 v4.toInt64 (Int64.ofNat 0) 100) = 0
        · rw [if_pos h42] at k
          have k := ly_revb 1 (c' := (57, [(0, .ref (p 0)), (1, .int v1), (2, .int v2), (3, .int v3), (4, .int v4), (5, .int v5)], [.int (Int32.ofInt (-1))], me_w (lw M L) J)) rfl k
          have k := lz_ri rfl (by decide) k
          rw [k, x231, if_neg h5, if_neg h17, if_neg h29, if_pos h42]
        · rw [if_neg h42] at k
          have k := ly_revb 4 (c' := (50, [(0, .ref (p 0)), (1, .int v1), (2, .int v2), (3, .int v3), (4, .int v4), (5, .int v5)], [.long (Int64.ofNat 1), .long (Int64.ofNat 0), .long v5.toInt64], me_w (lw M L) J)) rfl k
          obtain ⟨d1, o1, ed, kc, k⟩ := lz_c (g := 145) (q := 0) (vs := [.long v5.toInt64, .long (Int64.ofNat 0), .long (Int64.ofNat 1)]) (rest := []) rfl rfl (by decide) (Or.inl ⟨_, rfl, rfl⟩) rfl k
          have e1 := xt145  kc
          subst e1
          have k : nt_rn X _ 231 (53, [(0, .ref (p 0)), (1, .int v1), (2, .int v2), (3, .int v3), (4, .int v4), (5, .int v5)], [.int (x145 v5.toInt64 (Int64.ofNat 0) (Int64.ofNat 1))], me_w (lw M L) J) _ := k
          have k := ly_revb 1 (c' := (if (x145 v5.toInt64 (Int64.ofNat 0) (Int64.ofNat 1)) = 0 then 56 else 58, [(0, .ref (p 0)), (1, .int v1), (2, .int v2), (3, .int v3), (4, .int v4), (5, .int v5)], [], me_w (lw M L) J)) rfl k
          by_cases h53 : (x145 v5.toInt64 (Int64.ofNat 0) (Int64.ofNat 1)) = 0
          · rw [if_pos h53] at k
            have k := ly_revb 1 (c' := (57, [(0, .ref (p 0)), (1, .int v1), (2, .int v2), (3, .int v3), (4, .int v4), (5, .int v5)], [.int (Int32.ofInt (-1))], me_w (lw M L) J)) rfl k
            have k := lz_ri rfl (by decide) k
            rw [k, x231, if_neg h5, if_neg h17, if_neg h29, if_neg h42, if_pos h53]
          · rw [if_neg h53] at k
            have k := ly_revb 1 (c' := (59, [(0, .ref (p 0)), (1, .int v1), (2, .int v2), (3, .int v3), (4, .int v4), (5, .int v5)], [.ref (p 0)], me_w (lw M L) J)) rfl k
            obtain ⟨d1, o1, ed, kc, k⟩ := lz_c (g := 227) (q := 1) (vs := [.ref (p 0)]) (rest := []) rfl rfl (by decide) (Or.inr (Or.inl ⟨_, rfl, rfl⟩)) rfl k
            have e1 := xt227 (xs_lp hp) kc
            subst e1
            have k : nt_rn X _ 231 (62, [(0, .ref (p 0)), (1, .int v1), (2, .int v2), (3, .int v3), (4, .int v4), (5, .int v5)], [], me_w (lw M L) (x227 p J)) _ := k
            have k := ly_revb 1 (c' := (63, [(0, .ref (p 0)), (1, .int v1), (2, .int v2), (3, .int v3), (4, .int v4), (5, .int v5)], [.ref (p 0)], me_w (lw M L) (x227 p J))) rfl k
            have k := lz_get (a := (p 0)) (g := 1127) (M := me_w (lw M L) (x227 p J)) (v := .ref (p 4)) rfl (nt_gfR rfl (mw_RL (hp.1 (0, 27, 4) (by decide)))) k
            have k := ly_revb 1 (c' := (68, [(0, .ref (p 0)), (1, .int v1), (2, .int v2), (3, .int v3), (4, .int v4), (5, .int v5)], [.int (Int32.ofInt 9), .ref (p 4)], me_w (lw M L) (x227 p J))) rfl k
            have k := mx_iald (v := J (p 4) 9) rfl (hp.2.2.1 4 (by omega)) ((congrArg ((x227 p J) (p 4)) (show (Int32.ofInt 9).toNatClampNeg = 9 from rfl)).trans (congrFun (x227_frJ  (hp.2.1 4 7 (by omega) (by omega) (by decide))) 9)) k
            have k := ly_revb 6 (c' := (78, [(9, .int (Int32.ofInt 0)), (8, .int (Int32.ofInt 0)), (6, .long ((J (p 4) 9).toInt64)), (0, .ref (p 0)), (1, .int v1), (2, .int v2), (3, .int v3), (4, .int v4), (5, .int v5)], [], me_w (lw M L) (x227 p J))) rfl k
            have k := nt_rn_w (a := [(9, .int (Int32.ofInt 0)), (8, .int (Int32.ofInt 0)), (6, .long ((J (p 4) 9).toInt64)), (0, .ref (p 0)), (1, .int v1), (2, .int v2), (3, .int v3), (4, .int v4), (5, .int v5)]) (b := [(0, .ref (p 0)), (1, .int v1), (2, .int v2), (3, .int v3), (4, .int v4), (5, .int v5), (6, .long ((J (p 4) 9).toInt64)), (8, .int (Int32.ofInt 0)), (9, .int (Int32.ofInt 0)), (10, .int (Int32.ofInt 0)), (11, .int (Int32.ofInt 0)), (12, .int (Int32.ofInt 0))]) ⟨rfl, rfl, rfl, rfl, rfl, rfl, rfl, rfl, rfl, trivial⟩ rfl k
            have k := xt231_78 hp  v2.toNatClampNeg ((J (p 4) 9).toInt64) (Int32.ofInt 0) (Int32.ofInt 0) (Int32.ofInt 0) (Int32.ofInt 0) (Int32.ofInt 0) (x227 p J) L (⟨xr_ae (fun j hj => zkp (hp.2.1 4 7 (by omega) (by omega) (by decide)) hj) hw, by rw [x227_frJ (hp.2.1 4 7 (by omega) (by omega) (by decide))]; exact hw, lx_beg (by decide)⟩) k
            rw [k, x231, if_neg h5, if_neg h17, if_neg h29, if_neg h42, if_neg h53]
theorem x231_78_frJ {p : Nat → Nat} {v1 : Int32} {v2 : Int32} {v3 : Int32} {v4 : Int32} {v5 : Int32} {b : Nat} : ∀ (c : Nat) (v6 : Int64) (v8 : Int32) (v9 : Int32) (J : Nat → Nat → Int32) (L : Nat → Nat → Int64), b ≠ p 0 → b ≠ p 4 → b ≠ p 7 → (x231_78 p v1 v2 v3 v4 v5 c v6 v8 v9 J L).2.1 b = J b := by
  intro c
  induction c with
  | zero =>
    intro v6 v8 v9 J L n0 n1 n2
    rw [x231_78]
    all_goals first | (dsimp only; exact (show J b = J b from rfl)) | exact (show J b = J b from rfl)
  | succ c ih =>
    intro v6 v8 v9 J L n0 n1 n2
    rw [x231_78]
    by_cases h : v2 ≤ v9
    · rw [if_pos h]
      all_goals first | (dsimp only; exact (show J b = J b from rfl)) | exact (show J b = J b from rfl)
    · rw [if_neg h]
      by_cases h : v5 = 0
      · rw [if_pos h]
        exact (ih _ _ _ _ _ n0 n1 n2).trans ((x229_frJ  n1).trans (x231_87_frJ _ _ _ _ _ n0 n1))
      · rw [if_neg h]
        exact (ih _ _ _ _ _ n0 n1 n2).trans ((x229_frJ  n1).trans (x231_87_frJ _ _ _ _ _ n0 n1))
theorem x231_frJ {p : Nat → Nat} {v1 : Int32} {v2 : Int32} {v3 : Int32} {v4 : Int32} {v5 : Int32} {J : Nat → Nat → Int32} {L : Nat → Nat → Int64} {b : Nat} (n0 : b ≠ p 0) (n1 : b ≠ p 4) (n2 : b ≠ p 7) : (x231 p v1 v2 v3 v4 v5 J L).2.1 b = J b := by
  unfold x231
  by_cases h : (x187 p v1 J) = 0
  · rw [if_pos h]
    all_goals first | (dsimp only; exact (show J b = J b from rfl)) | exact (show J b = J b from rfl)
  · rw [if_neg h]
    by_cases h : (x145 v2.toInt64 (Int64.ofNat 1) 20) = 0
    · rw [if_pos h]
      all_goals first | (dsimp only; exact (show J b = J b from rfl)) | exact (show J b = J b from rfl)
    · rw [if_neg h]
      by_cases h : (x145 v3.toInt64 (Int64.ofNat 1) 100) = 0
      · rw [if_pos h]
        all_goals first | (dsimp only; exact (show J b = J b from rfl)) | exact (show J b = J b from rfl)
      · rw [if_neg h]
        by_cases h : (x145 v4.toInt64 (Int64.ofNat 0) 100) = 0
        · rw [if_pos h]
          all_goals first | (dsimp only; exact (show J b = J b from rfl)) | exact (show J b = J b from rfl)
        · rw [if_neg h]
          by_cases h : (x145 v5.toInt64 (Int64.ofNat 0) (Int64.ofNat 1)) = 0
          · rw [if_pos h]
            all_goals first | (dsimp only; exact (show J b = J b from rfl)) | exact (show J b = J b from rfl)
          · rw [if_neg h]
            exact (x231_78_frJ _ _ _ _ _ _ n0 n1 n2).trans (x227_frJ  n2)
theorem x231_78_frL {p : Nat → Nat} {v1 : Int32} {v2 : Int32} {v3 : Int32} {v4 : Int32} {v5 : Int32} {b : Nat} : ∀ (c : Nat) (v6 : Int64) (v8 : Int32) (v9 : Int32) (J : Nat → Nat → Int32) (L : Nat → Nat → Int64), b ≠ p 5 → b ≠ p 6 → (x231_78 p v1 v2 v3 v4 v5 c v6 v8 v9 J L).2.2 b = L b := by
  intro c
  induction c with
  | zero =>
    intro v6 v8 v9 J L n0 n1
    rw [x231_78]
    all_goals first | (dsimp only; exact (show L b = L b from rfl)) | exact (show L b = L b from rfl)
  | succ c ih =>
    intro v6 v8 v9 J L n0 n1
    rw [x231_78]
    by_cases h : v2 ≤ v9
    · rw [if_pos h]
      all_goals first | (dsimp only; exact (show L b = L b from rfl)) | exact (show L b = L b from rfl)
    · rw [if_neg h]
      by_cases h : v5 = 0
      · rw [if_pos h]
        exact (ih _ _ _ _ _ n0 n1).trans (x231_87_frL _ _ _ _ _ n0 n1)
      · rw [if_neg h]
        exact (ih _ _ _ _ _ n0 n1).trans (x231_87_frL _ _ _ _ _ n0 n1)
theorem x231_frL {p : Nat → Nat} {v1 : Int32} {v2 : Int32} {v3 : Int32} {v4 : Int32} {v5 : Int32} {J : Nat → Nat → Int32} {L : Nat → Nat → Int64} {b : Nat} (n0 : b ≠ p 5) (n1 : b ≠ p 6) : (x231 p v1 v2 v3 v4 v5 J L).2.2 b = L b := by
  unfold x231
  by_cases h : (x187 p v1 J) = 0
  · rw [if_pos h]
    all_goals first | (dsimp only; exact (show L b = L b from rfl)) | exact (show L b = L b from rfl)
  · rw [if_neg h]
    by_cases h : (x145 v2.toInt64 (Int64.ofNat 1) 20) = 0
    · rw [if_pos h]
      all_goals first | (dsimp only; exact (show L b = L b from rfl)) | exact (show L b = L b from rfl)
    · rw [if_neg h]
      by_cases h : (x145 v3.toInt64 (Int64.ofNat 1) 100) = 0
      · rw [if_pos h]
        all_goals first | (dsimp only; exact (show L b = L b from rfl)) | exact (show L b = L b from rfl)
      · rw [if_neg h]
        by_cases h : (x145 v4.toInt64 (Int64.ofNat 0) 100) = 0
        · rw [if_pos h]
          all_goals first | (dsimp only; exact (show L b = L b from rfl)) | exact (show L b = L b from rfl)
        · rw [if_neg h]
          by_cases h : (x145 v5.toInt64 (Int64.ofNat 0) (Int64.ofNat 1)) = 0
          · rw [if_pos h]
            all_goals first | (dsimp only; exact (show L b = L b from rfl)) | exact (show L b = L b from rfl)
          · rw [if_neg h]
            exact (x231_78_frL _ _ _ _ _ _ n0 n1).trans (rfl)
end
section
/-! years, the class -/
/-! $State.firstSoundIn -/
def x82_2 (q : Nat → Nat) (v1 : Int32) (J : Nat → Nat → Int32) : Nat → Int32 → Int32
  | 0, v2 => (Int32.ofInt (-1))
  | c + 1, v2 => if (J (q 1) 2) ≤ v2 then (Int32.ofInt (-1))
    else if (J (q 14) v2.toNatClampNeg) = v1 then if (J (q 13) v2.toNatClampNeg) ≤ 0 then (x82_2 q v1 J c (v2 + (Int32.ofInt 1)))
        else v2
      else (x82_2 q v1 J c (v2 + (Int32.ofInt 1)))
theorem xt82_2 {X : nt_X} {d : Nat} {M : nt_M} {o : Option Value × nt_M} {q : Nat → Nat} {v1 : Int32} {J : Nat → Nat → Int32} (hq : xs_Q M q) : ∀ (c : Nat) (v2 : Int32), (J (q 1) 2).toInt - v2.toInt ≤ c → nt_rn X d 82 (2, [(0, .ref (q 0)), (1, .int v1), (2, .int v2)], [], me_w M J) o → o = (some (.int (x82_2 q v1 J c v2)), me_w M J) := by
  intro c
  induction c with
  | zero =>
    intro v2 hc k
    have k := ly_revb 2 (c' := (4, [(0, .ref (q 0)), (1, .int v1), (2, .int v2)], [.ref (q 0), .int v2], me_w M J)) rfl k
    have k := lz_get (a := (q 0)) (g := 600) (M := me_w M J) (v := .ref (q 1)) rfl (nt_gfR rfl (hq.1 (0, 0, 1) (by decide))) k
    have k := lz_get (a := (q 1)) (g := 802) (M := me_w M J) (v := .int (J (q 1) 2)) rfl (congrArg Value.int (rfl)) k
    have k := ly_revb 1 (c' := (if (J (q 1) 2) ≤ v2 then 40 else 13, [(0, .ref (q 0)), (1, .int v1), (2, .int v2)], [], me_w M J)) rfl k
    have h10 : (J (q 1) 2) ≤ v2 := lx_end hc
    rw [if_pos h10] at k
    have k := ly_revb 1 (c' := (41, [(0, .ref (q 0)), (1, .int v1), (2, .int v2)], [.int (Int32.ofInt (-1))], me_w M J)) rfl k
    have k := lz_ri rfl (by decide) k
    rw [k, x82_2]
  | succ c ih =>
    intro v2 hc k
    have k := ly_revb 2 (c' := (4, [(0, .ref (q 0)), (1, .int v1), (2, .int v2)], [.ref (q 0), .int v2], me_w M J)) rfl k
    have k := lz_get (a := (q 0)) (g := 600) (M := me_w M J) (v := .ref (q 1)) rfl (nt_gfR rfl (hq.1 (0, 0, 1) (by decide))) k
    have k := lz_get (a := (q 1)) (g := 802) (M := me_w M J) (v := .int (J (q 1) 2)) rfl (congrArg Value.int (rfl)) k
    have k := ly_revb 1 (c' := (if (J (q 1) 2) ≤ v2 then 40 else 13, [(0, .ref (q 0)), (1, .int v1), (2, .int v2)], [], me_w M J)) rfl k
    by_cases h10 : (J (q 1) 2) ≤ v2
    · rw [if_pos h10] at k
      have k := ly_revb 1 (c' := (41, [(0, .ref (q 0)), (1, .int v1), (2, .int v2)], [.int (Int32.ofInt (-1))], me_w M J)) rfl k
      have k := lz_ri rfl (by decide) k
      rw [k, x82_2, if_pos h10]
    · rw [if_neg h10] at k
      have k := ly_revb 1 (c' := (14, [(0, .ref (q 0)), (1, .int v1), (2, .int v2)], [.ref (q 0)], me_w M J)) rfl k
      have k := lz_get (a := (q 0)) (g := 611) (M := me_w M J) (v := .ref (q 14)) rfl (nt_gfR rfl (hq.1 (0, 11, 14) (by decide))) k
      have k := ly_revb 1 (c' := (18, [(0, .ref (q 0)), (1, .int v1), (2, .int v2)], [.int v2, .ref (q 14)], me_w M J)) rfl k
      have k := mx_iald (v := J (q 14) v2.toNatClampNeg) rfl (hq.2.2.1 14 (by omega)) (rfl) k
      have k := ly_revb 2 (c' := (if (J (q 14) v2.toNatClampNeg) = v1 then 23 else 34, [(0, .ref (q 0)), (1, .int v1), (2, .int v2)], [], me_w M J)) rfl k
      by_cases h20 : (J (q 14) v2.toNatClampNeg) = v1
      · rw [if_pos h20] at k
        have k := ly_revb 1 (c' := (24, [(0, .ref (q 0)), (1, .int v1), (2, .int v2)], [.ref (q 0)], me_w M J)) rfl k
        have k := lz_get (a := (q 0)) (g := 610) (M := me_w M J) (v := .ref (q 13)) rfl (nt_gfR rfl (hq.1 (0, 10, 13) (by decide))) k
        have k := ly_revb 1 (c' := (28, [(0, .ref (q 0)), (1, .int v1), (2, .int v2)], [.int v2, .ref (q 13)], me_w M J)) rfl k
        have k := mx_iald (v := J (q 13) v2.toNatClampNeg) rfl (hq.2.2.1 13 (by omega)) (rfl) k
        have k := ly_revb 1 (c' := (if (J (q 13) v2.toNatClampNeg) ≤ 0 then 34 else 32, [(0, .ref (q 0)), (1, .int v1), (2, .int v2)], [], me_w M J)) rfl k
        by_cases h29 : (J (q 13) v2.toNatClampNeg) ≤ 0
        · rw [if_pos h29] at k
          have k := ly_revb 2 (c' := (2, [(2, .int (v2 + (Int32.ofInt 1))), (0, .ref (q 0)), (1, .int v1)], [], me_w M J)) rfl k
          have k := nt_rn_w (a := [(2, .int (v2 + (Int32.ofInt 1))), (0, .ref (q 0)), (1, .int v1)]) (b := [(0, .ref (q 0)), (1, .int v1), (2, .int (v2 + (Int32.ofInt 1)))]) ⟨rfl, rfl, rfl, trivial⟩ rfl k
          have k := ih (v2 + (Int32.ofInt 1)) (lx_dec h10 hc) k
          rw [k, x82_2, if_neg h10, if_pos h20, if_pos h29]
        · rw [if_neg h29] at k
          have k := ly_revb 1 (c' := (33, [(0, .ref (q 0)), (1, .int v1), (2, .int v2)], [.int v2], me_w M J)) rfl k
          have k := lz_ri rfl (by decide) k
          rw [k, x82_2, if_neg h10, if_pos h20, if_neg h29]
      · rw [if_neg h20] at k
        have k := ly_revb 2 (c' := (2, [(2, .int (v2 + (Int32.ofInt 1))), (0, .ref (q 0)), (1, .int v1)], [], me_w M J)) rfl k
        have k := nt_rn_w (a := [(2, .int (v2 + (Int32.ofInt 1))), (0, .ref (q 0)), (1, .int v1)]) (b := [(0, .ref (q 0)), (1, .int v1), (2, .int (v2 + (Int32.ofInt 1)))]) ⟨rfl, rfl, rfl, trivial⟩ rfl k
        have k := ih (v2 + (Int32.ofInt 1)) (lx_dec h10 hc) k
        rw [k, x82_2, if_neg h10, if_neg h20]
theorem x82_2_rule {q : Nat → Nat} {v1 : Int32} {J : Nat → Nat → Int32} {I : Nat → Int32 → Prop} {Q : Int32 → Prop} (h0 : ∀ (v2 : Int32), I 0 v2 → Q (Int32.ofInt (-1))) (h1 : ∀ (c : Nat) (v2 : Int32), I (c + 1) v2 →
    if (J (q 1) 2) ≤ v2 then (Q (Int32.ofInt (-1)))
    else if (J (q 14) v2.toNatClampNeg) = v1 then if (J (q 13) v2.toNatClampNeg) ≤ 0 then (I c (v2 + (Int32.ofInt 1)))
        else (Q v2)
      else (I c (v2 + (Int32.ofInt 1)))) : ∀ (c : Nat) (v2 : Int32), I c v2 → Q (x82_2 q v1 J c v2) := by
  intro c
  induction c with
  | zero =>
    intro v2 hi
    rw [x82_2]
    exact h0 v2 hi
  | succ c ih =>
    intro v2 hi
    have hi := h1 c v2 hi
    rw [x82_2]
    by_cases h : (J (q 1) 2) ≤ v2
    · rw [if_pos h] at hi ⊢
      exact hi
    · rw [if_neg h] at hi ⊢
      by_cases h : (J (q 14) v2.toNatClampNeg) = v1
      · rw [if_pos h] at hi ⊢
        by_cases h : (J (q 13) v2.toNatClampNeg) ≤ 0
        · rw [if_pos h] at hi ⊢
          exact ih _ hi
        · rw [if_neg h] at hi ⊢
          exact hi
      · rw [if_neg h] at hi ⊢
        exact ih _ hi
def x82 (q : Nat → Nat) (v1 : Int32) (J : Nat → Nat → Int32) : Int32 := (x82_2 q v1 J ((J (q 1) 2).toNatClampNeg) (Int32.ofInt 0))
theorem xt82 {X : nt_X} {d : Nat} {M : nt_M} {o : Option Value × nt_M} {q : Nat → Nat} {v1 : Int32} {J : Nat → Nat → Int32} (hq : xs_Q M q) (k : nt_ev X d 82 [.ref (q 0), .int v1] (me_w M J) o) : o = (some (.int (x82 q v1 J)), me_w M J) := by
  have k : nt_rn X d 82 (0, [(0, .ref (q 0)), (1, .int v1)], [], me_w M J) o := k
  have k := ly_revb 2 (c' := (2, [(2, .int (Int32.ofInt 0)), (0, .ref (q 0)), (1, .int v1)], [], me_w M J)) rfl k
  have k := nt_rn_w (a := [(2, .int (Int32.ofInt 0)), (0, .ref (q 0)), (1, .int v1)]) (b := [(0, .ref (q 0)), (1, .int v1), (2, .int (Int32.ofInt 0))]) ⟨rfl, rfl, rfl, trivial⟩ rfl k
  have k := xt82_2 hq  ((J (q 1) 2).toNatClampNeg) (Int32.ofInt 0) (lx_beg (by decide)) k
  rw [k, x82]
/-! $State.drawForShips -/
def x81_2 (q : Nat → Nat) (v1 : Int32) : Nat → Int32 → (Nat → Nat → Int32) → (Nat → Nat → Int32)
  | 0, v2, J => J
  | c + 1, v2, J => if (J (q 1) 1) ≤ v2 then J
    else if (J (q 10) v2.toNatClampNeg) = (Int32.ofInt 1) then if (x82 q v2 J) = (Int32.ofInt (-1)) then (x81_2 q v1 c (v2 + (Int32.ofInt 1)) J)
        else if v1 ≤ ((((((((J (q 0) 6).toInt64) * 1103515245) + 12345) - ((((J (q 0) 6).toInt64) * 1103515245) + 12345) / 2147483648 * 2147483648).toInt32) / (Int32.ofInt 65536)) - (((((((J (q 0) 6).toInt64) * 1103515245) + 12345) - ((((J (q 0) 6).toInt64) * 1103515245) + 12345) / 2147483648 * 2147483648).toInt32) / (Int32.ofInt 65536)) / (Int32.ofInt 100) * (Int32.ofInt 100)) then (x81_2 q v1 c (v2 + (Int32.ofInt 1)) (nt_u J (q 0) 6 ((((((J (q 0) 6).toInt64) * 1103515245) + 12345) - ((((J (q 0) 6).toInt64) * 1103515245) + 12345) / 2147483648 * 2147483648).toInt32)))
          else if (J (q 13) ((x82 q v2 J).toNatClampNeg)) ≤ (Int32.ofInt 1) then (x81_2 q v1 c (v2 + (Int32.ofInt 1)) (nt_u J (q 0) 6 ((((((J (q 0) 6).toInt64) * 1103515245) + 12345) - ((((J (q 0) 6).toInt64) * 1103515245) + 12345) / 2147483648 * 2147483648).toInt32)))
            else (x81_2 q v1 c (v2 + (Int32.ofInt 1)) (nt_u (nt_u J (q 0) 6 ((((((J (q 0) 6).toInt64) * 1103515245) + 12345) - ((((J (q 0) 6).toInt64) * 1103515245) + 12345) / 2147483648 * 2147483648).toInt32)) (q 13) ((x82 q v2 J).toNatClampNeg) ((J (q 13) ((x82 q v2 J).toNatClampNeg)) - (Int32.ofInt 1))))
      else if (Int32.ofInt (-1)) = (Int32.ofInt (-1)) then (x81_2 q v1 c (v2 + (Int32.ofInt 1)) J)
        else if v1 ≤ ((((((((J (q 0) 6).toInt64) * 1103515245) + 12345) - ((((J (q 0) 6).toInt64) * 1103515245) + 12345) / 2147483648 * 2147483648).toInt32) / (Int32.ofInt 65536)) - (((((((J (q 0) 6).toInt64) * 1103515245) + 12345) - ((((J (q 0) 6).toInt64) * 1103515245) + 12345) / 2147483648 * 2147483648).toInt32) / (Int32.ofInt 65536)) / (Int32.ofInt 100) * (Int32.ofInt 100)) then (x81_2 q v1 c (v2 + (Int32.ofInt 1)) (nt_u J (q 0) 6 ((((((J (q 0) 6).toInt64) * 1103515245) + 12345) - ((((J (q 0) 6).toInt64) * 1103515245) + 12345) / 2147483648 * 2147483648).toInt32)))
          else if (J (q 13) ((Int32.ofInt (-1)).toNatClampNeg)) ≤ (Int32.ofInt 1) then (x81_2 q v1 c (v2 + (Int32.ofInt 1)) (nt_u J (q 0) 6 ((((((J (q 0) 6).toInt64) * 1103515245) + 12345) - ((((J (q 0) 6).toInt64) * 1103515245) + 12345) / 2147483648 * 2147483648).toInt32)))
            else (x81_2 q v1 c (v2 + (Int32.ofInt 1)) (nt_u (nt_u J (q 0) 6 ((((((J (q 0) 6).toInt64) * 1103515245) + 12345) - ((((J (q 0) 6).toInt64) * 1103515245) + 12345) / 2147483648 * 2147483648).toInt32)) (q 13) ((Int32.ofInt (-1)).toNatClampNeg) ((J (q 13) ((Int32.ofInt (-1)).toNatClampNeg)) - (Int32.ofInt 1))))
theorem xt81_2 {X : nt_X} {d : Nat} {M : nt_M} {o : Option Value × nt_M} {q : Nat → Nat} {v1 : Int32} (hq : xs_Q M q) : ∀ (c : Nat) (v2 : Int32) (v3 : Int32) (J : Nat → Nat → Int32), (J (q 1) 1).toInt - v2.toInt ≤ c → nt_rn X d 81 (2, [(0, .ref (q 0)), (1, .int v1), (2, .int v2), (3, .int v3)], [], me_w M J) o → o = (none, me_w M (x81_2 q v1 c v2 J)) := by
  intro c
  induction c with
  | zero =>
    intro v2 v3 J hc k
    have k := ly_revb 2 (c' := (4, [(0, .ref (q 0)), (1, .int v1), (2, .int v2), (3, .int v3)], [.ref (q 0), .int v2], me_w M J)) rfl k
    have k := lz_get (a := (q 0)) (g := 600) (M := me_w M J) (v := .ref (q 1)) rfl (nt_gfR rfl (hq.1 (0, 0, 1) (by decide))) k
    have k := lz_get (a := (q 1)) (g := 801) (M := me_w M J) (v := .int (J (q 1) 1)) rfl (congrArg Value.int (rfl)) k
    have k := ly_revb 1 (c' := (if (J (q 1) 1) ≤ v2 then 100 else 13, [(0, .ref (q 0)), (1, .int v1), (2, .int v2), (3, .int v3)], [], me_w M J)) rfl k
    have h10 : (J (q 1) 1) ≤ v2 := lx_end hc
    rw [if_pos h10] at k
    have k := lz_rv rfl rfl k
    rw [k, x81_2]
  | succ c ih =>
    intro v2 v3 J hc k
    have k := ly_revb 2 (c' := (4, [(0, .ref (q 0)), (1, .int v1), (2, .int v2), (3, .int v3)], [.ref (q 0), .int v2], me_w M J)) rfl k
    have k := lz_get (a := (q 0)) (g := 600) (M := me_w M J) (v := .ref (q 1)) rfl (nt_gfR rfl (hq.1 (0, 0, 1) (by decide))) k
    have k := lz_get (a := (q 1)) (g := 801) (M := me_w M J) (v := .int (J (q 1) 1)) rfl (congrArg Value.int (rfl)) k
    have k := ly_revb 1 (c' := (if (J (q 1) 1) ≤ v2 then 100 else 13, [(0, .ref (q 0)), (1, .int v1), (2, .int v2), (3, .int v3)], [], me_w M J)) rfl k
    by_cases h10 : (J (q 1) 1) ≤ v2
    · rw [if_pos h10] at k
      have k := lz_rv rfl rfl k
      rw [k, x81_2, if_pos h10]
    · rw [if_neg h10] at k
      have k := ly_revb 1 (c' := (14, [(0, .ref (q 0)), (1, .int v1), (2, .int v2), (3, .int v3)], [.ref (q 0)], me_w M J)) rfl k
      have k := lz_get (a := (q 0)) (g := 607) (M := me_w M J) (v := .ref (q 10)) rfl (nt_gfR rfl (hq.1 (0, 7, 10) (by decide))) k
      have k := ly_revb 1 (c' := (18, [(0, .ref (q 0)), (1, .int v1), (2, .int v2), (3, .int v3)], [.int v2, .ref (q 10)], me_w M J)) rfl k
      have k := mx_iald (v := J (q 10) v2.toNatClampNeg) rfl (hq.2.2.1 10 (by omega)) (rfl) k
      have k := ly_revb 2 (c' := (if (J (q 10) v2.toNatClampNeg) = (Int32.ofInt 1) then 23 else 31, [(0, .ref (q 0)), (1, .int v1), (2, .int v2), (3, .int v3)], [], me_w M J)) rfl k
      by_cases h20 : (J (q 10) v2.toNatClampNeg) = (Int32.ofInt 1)
      · rw [if_pos h20] at k
        have k := ly_revb 2 (c' := (25, [(0, .ref (q 0)), (1, .int v1), (2, .int v2), (3, .int v3)], [.int v2, .ref (q 0)], me_w M J)) rfl k
        obtain ⟨d1, o1, ed, kc, k⟩ := lz_c (g := 82) (q := 1) (vs := [.ref (q 0), .int v2]) (rest := []) rfl rfl (by decide) (Or.inr (Or.inl ⟨_, rfl, rfl⟩)) rfl k
        have e1 := xt82 hq kc
        subst e1
        have k : nt_rn X _ 81 (28, [(0, .ref (q 0)), (1, .int v1), (2, .int v2), (3, .int v3)], [.int (x82 q v2 J)], me_w M J) _ := k
        have k := ly_revb 5 (c' := (if (x82 q v2 J) = (Int32.ofInt (-1)) then 94 else 38, [(3, .int (x82 q v2 J)), (0, .ref (q 0)), (1, .int v1), (2, .int v2)], [], me_w M J)) rfl k
        by_cases h35 : (x82 q v2 J) = (Int32.ofInt (-1))
        · rw [if_pos h35] at k
          have k := ly_revb 2 (c' := (2, [(2, .int (v2 + (Int32.ofInt 1))), (3, .int (x82 q v2 J)), (0, .ref (q 0)), (1, .int v1)], [], me_w M J)) rfl k
          have k := nt_rn_w (a := [(2, .int (v2 + (Int32.ofInt 1))), (3, .int (x82 q v2 J)), (0, .ref (q 0)), (1, .int v1)]) (b := [(0, .ref (q 0)), (1, .int v1), (2, .int (v2 + (Int32.ofInt 1))), (3, .int (x82 q v2 J))]) ⟨rfl, rfl, rfl, rfl, trivial⟩ rfl k
          have k := ih (v2 + (Int32.ofInt 1)) (x82 q v2 J) J (lx_dec h10 hc) k
          rw [k, x81_2, if_neg h10, if_pos h20, if_pos h35]
        · rw [if_neg h35] at k
          have k := ly_revb 2 (c' := (40, [(3, .int (x82 q v2 J)), (0, .ref (q 0)), (1, .int v1), (2, .int v2)], [.ref (q 0), .ref (q 0)], me_w M J)) rfl k
          have k := lz_get (a := (q 0)) (g := 606) (M := me_w M J) (v := .int (J (q 0) 6)) rfl (congrArg Value.int (rfl)) k
          have k := ly_revb 6 (c' := (55, [(3, .int (x82 q v2 J)), (0, .ref (q 0)), (1, .int v1), (2, .int v2)], [.long 2147483648, .long ((((J (q 0) 6).toInt64) * 1103515245) + 12345), .ref (q 0)], me_w M J)) rfl k
          obtain ⟨hd55, k⟩ := mx_lrem rfl k
          have k := ly_revb 1 (c' := (57, [(3, .int (x82 q v2 J)), (0, .ref (q 0)), (1, .int v1), (2, .int v2)], [.int ((((((J (q 0) 6).toInt64) * 1103515245) + 12345) - ((((J (q 0) 6).toInt64) * 1103515245) + 12345) / 2147483648 * 2147483648).toInt32), .ref (q 0)], me_w M J)) rfl k
          have k := me_put rfl (by decide) k
          have k : nt_rn X _ 81 (60, [(3, .int (x82 q v2 J)), (0, .ref (q 0)), (1, .int v1), (2, .int v2)], [], me_w M (nt_u J (q 0) 6 ((((((J (q 0) 6).toInt64) * 1103515245) + 12345) - ((((J (q 0) 6).toInt64) * 1103515245) + 12345) / 2147483648 * 2147483648).toInt32))) _ := k
          have k := ly_revb 1 (c' := (61, [(3, .int (x82 q v2 J)), (0, .ref (q 0)), (1, .int v1), (2, .int v2)], [.ref (q 0)], me_w M (nt_u J (q 0) 6 ((((((J (q 0) 6).toInt64) * 1103515245) + 12345) - ((((J (q 0) 6).toInt64) * 1103515245) + 12345) / 2147483648 * 2147483648).toInt32)))) rfl k
          have k := lz_get (a := (q 0)) (g := 606) (M := me_w M (nt_u J (q 0) 6 ((((((J (q 0) 6).toInt64) * 1103515245) + 12345) - ((((J (q 0) 6).toInt64) * 1103515245) + 12345) / 2147483648 * 2147483648).toInt32))) (v := .int ((((((J (q 0) 6).toInt64) * 1103515245) + 12345) - ((((J (q 0) 6).toInt64) * 1103515245) + 12345) / 2147483648 * 2147483648).toInt32)) rfl (congrArg Value.int (mu_s)) k
          have k := ly_revb 1 (c' := (66, [(3, .int (x82 q v2 J)), (0, .ref (q 0)), (1, .int v1), (2, .int v2)], [.int (Int32.ofInt 65536), .int ((((((J (q 0) 6).toInt64) * 1103515245) + 12345) - ((((J (q 0) 6).toInt64) * 1103515245) + 12345) / 2147483648 * 2147483648).toInt32)], me_w M (nt_u J (q 0) 6 ((((((J (q 0) 6).toInt64) * 1103515245) + 12345) - ((((J (q 0) 6).toInt64) * 1103515245) + 12345) / 2147483648 * 2147483648).toInt32)))) rfl k
          obtain ⟨hd66, k⟩ := mx_idiv rfl k
          have k := ly_revb 1 (c' := (69, [(3, .int (x82 q v2 J)), (0, .ref (q 0)), (1, .int v1), (2, .int v2)], [.int (Int32.ofInt 100), .int (((((((J (q 0) 6).toInt64) * 1103515245) + 12345) - ((((J (q 0) 6).toInt64) * 1103515245) + 12345) / 2147483648 * 2147483648).toInt32) / (Int32.ofInt 65536))], me_w M (nt_u J (q 0) 6 ((((((J (q 0) 6).toInt64) * 1103515245) + 12345) - ((((J (q 0) 6).toInt64) * 1103515245) + 12345) / 2147483648 * 2147483648).toInt32)))) rfl k
          obtain ⟨hd69, k⟩ := mx_irem rfl k
          have k := ly_revb 2 (c' := (if v1 ≤ ((((((((J (q 0) 6).toInt64) * 1103515245) + 12345) - ((((J (q 0) 6).toInt64) * 1103515245) + 12345) / 2147483648 * 2147483648).toInt32) / (Int32.ofInt 65536)) - (((((((J (q 0) 6).toInt64) * 1103515245) + 12345) - ((((J (q 0) 6).toInt64) * 1103515245) + 12345) / 2147483648 * 2147483648).toInt32) / (Int32.ofInt 65536)) / (Int32.ofInt 100) * (Int32.ofInt 100)) then 94 else 74, [(3, .int (x82 q v2 J)), (0, .ref (q 0)), (1, .int v1), (2, .int v2)], [], me_w M (nt_u J (q 0) 6 ((((((J (q 0) 6).toInt64) * 1103515245) + 12345) - ((((J (q 0) 6).toInt64) * 1103515245) + 12345) / 2147483648 * 2147483648).toInt32)))) rfl k
          by_cases h71 : v1 ≤ ((((((((J (q 0) 6).toInt64) * 1103515245) + 12345) - ((((J (q 0) 6).toInt64) * 1103515245) + 12345) / 2147483648 * 2147483648).toInt32) / (Int32.ofInt 65536)) - (((((((J (q 0) 6).toInt64) * 1103515245) + 12345) - ((((J (q 0) 6).toInt64) * 1103515245) + 12345) / 2147483648 * 2147483648).toInt32) / (Int32.ofInt 65536)) / (Int32.ofInt 100) * (Int32.ofInt 100))
          · rw [if_pos h71] at k
            have k := ly_revb 2 (c' := (2, [(2, .int (v2 + (Int32.ofInt 1))), (3, .int (x82 q v2 J)), (0, .ref (q 0)), (1, .int v1)], [], me_w M (nt_u J (q 0) 6 ((((((J (q 0) 6).toInt64) * 1103515245) + 12345) - ((((J (q 0) 6).toInt64) * 1103515245) + 12345) / 2147483648 * 2147483648).toInt32)))) rfl k
            have k := nt_rn_w (a := [(2, .int (v2 + (Int32.ofInt 1))), (3, .int (x82 q v2 J)), (0, .ref (q 0)), (1, .int v1)]) (b := [(0, .ref (q 0)), (1, .int v1), (2, .int (v2 + (Int32.ofInt 1))), (3, .int (x82 q v2 J))]) ⟨rfl, rfl, rfl, rfl, trivial⟩ rfl k
            have k := ih (v2 + (Int32.ofInt 1)) (x82 q v2 J) (nt_u J (q 0) 6 ((((((J (q 0) 6).toInt64) * 1103515245) + 12345) - ((((J (q 0) 6).toInt64) * 1103515245) + 12345) / 2147483648 * 2147483648).toInt32)) (by rw [show (nt_u J (q 0) 6 ((((((J (q 0) 6).toInt64) * 1103515245) + 12345) - ((((J (q 0) 6).toInt64) * 1103515245) + 12345) / 2147483648 * 2147483648).toInt32)) (q 1) 1 = J (q 1) 1 from mu_j (hq.2.1 1 0 (by omega) (by omega) (by decide))]; exact lx_dec h10 hc) k
            rw [k, x81_2, if_neg h10, if_pos h20, if_neg h35, if_pos h71]
          · rw [if_neg h71] at k
            have k := ly_revb 1 (c' := (75, [(3, .int (x82 q v2 J)), (0, .ref (q 0)), (1, .int v1), (2, .int v2)], [.ref (q 0)], me_w M (nt_u J (q 0) 6 ((((((J (q 0) 6).toInt64) * 1103515245) + 12345) - ((((J (q 0) 6).toInt64) * 1103515245) + 12345) / 2147483648 * 2147483648).toInt32)))) rfl k
            have k := lz_get (a := (q 0)) (g := 610) (M := me_w M (nt_u J (q 0) 6 ((((((J (q 0) 6).toInt64) * 1103515245) + 12345) - ((((J (q 0) 6).toInt64) * 1103515245) + 12345) / 2147483648 * 2147483648).toInt32))) (v := .ref (q 13)) rfl (nt_gfR rfl (hq.1 (0, 10, 13) (by decide))) k
            have k := ly_revb 1 (c' := (79, [(3, .int (x82 q v2 J)), (0, .ref (q 0)), (1, .int v1), (2, .int v2)], [.int (x82 q v2 J), .ref (q 13)], me_w M (nt_u J (q 0) 6 ((((((J (q 0) 6).toInt64) * 1103515245) + 12345) - ((((J (q 0) 6).toInt64) * 1103515245) + 12345) / 2147483648 * 2147483648).toInt32)))) rfl k
            have k := mx_iald (v := J (q 13) ((x82 q v2 J).toNatClampNeg)) rfl (hq.2.2.1 13 (by omega)) (mu_j (hq.2.1 13 0 (by omega) (by omega) (by decide))) k
            have k := ly_revb 2 (c' := (if (J (q 13) ((x82 q v2 J).toNatClampNeg)) ≤ (Int32.ofInt 1) then 94 else 84, [(3, .int (x82 q v2 J)), (0, .ref (q 0)), (1, .int v1), (2, .int v2)], [], me_w M (nt_u J (q 0) 6 ((((((J (q 0) 6).toInt64) * 1103515245) + 12345) - ((((J (q 0) 6).toInt64) * 1103515245) + 12345) / 2147483648 * 2147483648).toInt32)))) rfl k
            by_cases h81 : (J (q 13) ((x82 q v2 J).toNatClampNeg)) ≤ (Int32.ofInt 1)
            · rw [if_pos h81] at k
              have k := ly_revb 2 (c' := (2, [(2, .int (v2 + (Int32.ofInt 1))), (3, .int (x82 q v2 J)), (0, .ref (q 0)), (1, .int v1)], [], me_w M (nt_u J (q 0) 6 ((((((J (q 0) 6).toInt64) * 1103515245) + 12345) - ((((J (q 0) 6).toInt64) * 1103515245) + 12345) / 2147483648 * 2147483648).toInt32)))) rfl k
              have k := nt_rn_w (a := [(2, .int (v2 + (Int32.ofInt 1))), (3, .int (x82 q v2 J)), (0, .ref (q 0)), (1, .int v1)]) (b := [(0, .ref (q 0)), (1, .int v1), (2, .int (v2 + (Int32.ofInt 1))), (3, .int (x82 q v2 J))]) ⟨rfl, rfl, rfl, rfl, trivial⟩ rfl k
              have k := ih (v2 + (Int32.ofInt 1)) (x82 q v2 J) (nt_u J (q 0) 6 ((((((J (q 0) 6).toInt64) * 1103515245) + 12345) - ((((J (q 0) 6).toInt64) * 1103515245) + 12345) / 2147483648 * 2147483648).toInt32)) (by rw [show (nt_u J (q 0) 6 ((((((J (q 0) 6).toInt64) * 1103515245) + 12345) - ((((J (q 0) 6).toInt64) * 1103515245) + 12345) / 2147483648 * 2147483648).toInt32)) (q 1) 1 = J (q 1) 1 from mu_j (hq.2.1 1 0 (by omega) (by omega) (by decide))]; exact lx_dec h10 hc) k
              rw [k, x81_2, if_neg h10, if_pos h20, if_neg h35, if_neg h71, if_pos h81]
            · rw [if_neg h81] at k
              have k := ly_revb 1 (c' := (85, [(3, .int (x82 q v2 J)), (0, .ref (q 0)), (1, .int v1), (2, .int v2)], [.ref (q 0)], me_w M (nt_u J (q 0) 6 ((((((J (q 0) 6).toInt64) * 1103515245) + 12345) - ((((J (q 0) 6).toInt64) * 1103515245) + 12345) / 2147483648 * 2147483648).toInt32)))) rfl k
              have k := lz_get (a := (q 0)) (g := 610) (M := me_w M (nt_u J (q 0) 6 ((((((J (q 0) 6).toInt64) * 1103515245) + 12345) - ((((J (q 0) 6).toInt64) * 1103515245) + 12345) / 2147483648 * 2147483648).toInt32))) (v := .ref (q 13)) rfl (nt_gfR rfl (hq.1 (0, 10, 13) (by decide))) k
              have k := ly_revb 2 (c' := (90, [(3, .int (x82 q v2 J)), (0, .ref (q 0)), (1, .int v1), (2, .int v2)], [.int (x82 q v2 J), .ref (q 13), .int (x82 q v2 J), .ref (q 13)], me_w M (nt_u J (q 0) 6 ((((((J (q 0) 6).toInt64) * 1103515245) + 12345) - ((((J (q 0) 6).toInt64) * 1103515245) + 12345) / 2147483648 * 2147483648).toInt32)))) rfl k
              have k := mx_iald (v := J (q 13) ((x82 q v2 J).toNatClampNeg)) rfl (hq.2.2.1 13 (by omega)) (mu_j (hq.2.1 13 0 (by omega) (by omega) (by decide))) k
              have k := ly_revb 2 (c' := (93, [(3, .int (x82 q v2 J)), (0, .ref (q 0)), (1, .int v1), (2, .int v2)], [.int ((J (q 13) ((x82 q v2 J).toNatClampNeg)) - (Int32.ofInt 1)), .int (x82 q v2 J), .ref (q 13)], me_w M (nt_u J (q 0) 6 ((((((J (q 0) 6).toInt64) * 1103515245) + 12345) - ((((J (q 0) 6).toInt64) * 1103515245) + 12345) / 2147483648 * 2147483648).toInt32)))) rfl k
              have k := mx_iast (q := (x82 q v2 J).toNatClampNeg) rfl rfl k
              have k : nt_rn X _ 81 (94, [(3, .int (x82 q v2 J)), (0, .ref (q 0)), (1, .int v1), (2, .int v2)], [], me_w M (nt_u (nt_u J (q 0) 6 ((((((J (q 0) 6).toInt64) * 1103515245) + 12345) - ((((J (q 0) 6).toInt64) * 1103515245) + 12345) / 2147483648 * 2147483648).toInt32)) (q 13) ((x82 q v2 J).toNatClampNeg) ((J (q 13) ((x82 q v2 J).toNatClampNeg)) - (Int32.ofInt 1)))) _ := k
              have k := ly_revb 2 (c' := (2, [(2, .int (v2 + (Int32.ofInt 1))), (3, .int (x82 q v2 J)), (0, .ref (q 0)), (1, .int v1)], [], me_w M (nt_u (nt_u J (q 0) 6 ((((((J (q 0) 6).toInt64) * 1103515245) + 12345) - ((((J (q 0) 6).toInt64) * 1103515245) + 12345) / 2147483648 * 2147483648).toInt32)) (q 13) ((x82 q v2 J).toNatClampNeg) ((J (q 13) ((x82 q v2 J).toNatClampNeg)) - (Int32.ofInt 1))))) rfl k
              have k := nt_rn_w (a := [(2, .int (v2 + (Int32.ofInt 1))), (3, .int (x82 q v2 J)), (0, .ref (q 0)), (1, .int v1)]) (b := [(0, .ref (q 0)), (1, .int v1), (2, .int (v2 + (Int32.ofInt 1))), (3, .int (x82 q v2 J))]) ⟨rfl, rfl, rfl, rfl, trivial⟩ rfl k
              have k := ih (v2 + (Int32.ofInt 1)) (x82 q v2 J) (nt_u (nt_u J (q 0) 6 ((((((J (q 0) 6).toInt64) * 1103515245) + 12345) - ((((J (q 0) 6).toInt64) * 1103515245) + 12345) / 2147483648 * 2147483648).toInt32)) (q 13) ((x82 q v2 J).toNatClampNeg) ((J (q 13) ((x82 q v2 J).toNatClampNeg)) - (Int32.ofInt 1))) (by rw [show (nt_u (nt_u J (q 0) 6 ((((((J (q 0) 6).toInt64) * 1103515245) + 12345) - ((((J (q 0) 6).toInt64) * 1103515245) + 12345) / 2147483648 * 2147483648).toInt32)) (q 13) ((x82 q v2 J).toNatClampNeg) ((J (q 13) ((x82 q v2 J).toNatClampNeg)) - (Int32.ofInt 1))) (q 1) 1 = J (q 1) 1 from (mu_j (hq.2.1 1 13 (by omega) (by omega) (by decide))).trans (mu_j (hq.2.1 1 0 (by omega) (by omega) (by decide)))]; exact lx_dec h10 hc) k
              rw [k, x81_2, if_neg h10, if_pos h20, if_neg h35, if_neg h71, if_neg h81]
      · rw [if_neg h20] at k
        have k := ly_revb 5 (c' := (if (Int32.ofInt (-1)) = (Int32.ofInt (-1)) then 94 else 38, [(3, .int (Int32.ofInt (-1))), (0, .ref (q 0)), (1, .int v1), (2, .int v2)], [], me_w M J)) rfl k
        by_cases h35 : (Int32.ofInt (-1)) = (Int32.ofInt (-1))
        · rw [if_pos h35] at k
          have k := ly_revb 2 (c' := (2, [(2, .int (v2 + (Int32.ofInt 1))), (3, .int (Int32.ofInt (-1))), (0, .ref (q 0)), (1, .int v1)], [], me_w M J)) rfl k
          have k := nt_rn_w (a := [(2, .int (v2 + (Int32.ofInt 1))), (3, .int (Int32.ofInt (-1))), (0, .ref (q 0)), (1, .int v1)]) (b := [(0, .ref (q 0)), (1, .int v1), (2, .int (v2 + (Int32.ofInt 1))), (3, .int (Int32.ofInt (-1)))]) ⟨rfl, rfl, rfl, rfl, trivial⟩ rfl k
          have k := ih (v2 + (Int32.ofInt 1)) (Int32.ofInt (-1)) J (lx_dec h10 hc) k
          rw [k, x81_2, if_neg h10, if_neg h20, if_pos h35]
        · rw [if_neg h35] at k
          have k := ly_revb 2 (c' := (40, [(3, .int (Int32.ofInt (-1))), (0, .ref (q 0)), (1, .int v1), (2, .int v2)], [.ref (q 0), .ref (q 0)], me_w M J)) rfl k
          have k := lz_get (a := (q 0)) (g := 606) (M := me_w M J) (v := .int (J (q 0) 6)) rfl (congrArg Value.int (rfl)) k
          have k := ly_revb 6 (c' := (55, [(3, .int (Int32.ofInt (-1))), (0, .ref (q 0)), (1, .int v1), (2, .int v2)], [.long 2147483648, .long ((((J (q 0) 6).toInt64) * 1103515245) + 12345), .ref (q 0)], me_w M J)) rfl k
          obtain ⟨hd55, k⟩ := mx_lrem rfl k
          have k := ly_revb 1 (c' := (57, [(3, .int (Int32.ofInt (-1))), (0, .ref (q 0)), (1, .int v1), (2, .int v2)], [.int ((((((J (q 0) 6).toInt64) * 1103515245) + 12345) - ((((J (q 0) 6).toInt64) * 1103515245) + 12345) / 2147483648 * 2147483648).toInt32), .ref (q 0)], me_w M J)) rfl k
          have k := me_put rfl (by decide) k
          have k : nt_rn X _ 81 (60, [(3, .int (Int32.ofInt (-1))), (0, .ref (q 0)), (1, .int v1), (2, .int v2)], [], me_w M (nt_u J (q 0) 6 ((((((J (q 0) 6).toInt64) * 1103515245) + 12345) - ((((J (q 0) 6).toInt64) * 1103515245) + 12345) / 2147483648 * 2147483648).toInt32))) _ := k
          have k := ly_revb 1 (c' := (61, [(3, .int (Int32.ofInt (-1))), (0, .ref (q 0)), (1, .int v1), (2, .int v2)], [.ref (q 0)], me_w M (nt_u J (q 0) 6 ((((((J (q 0) 6).toInt64) * 1103515245) + 12345) - ((((J (q 0) 6).toInt64) * 1103515245) + 12345) / 2147483648 * 2147483648).toInt32)))) rfl k
          have k := lz_get (a := (q 0)) (g := 606) (M := me_w M (nt_u J (q 0) 6 ((((((J (q 0) 6).toInt64) * 1103515245) + 12345) - ((((J (q 0) 6).toInt64) * 1103515245) + 12345) / 2147483648 * 2147483648).toInt32))) (v := .int ((((((J (q 0) 6).toInt64) * 1103515245) + 12345) - ((((J (q 0) 6).toInt64) * 1103515245) + 12345) / 2147483648 * 2147483648).toInt32)) rfl (congrArg Value.int (mu_s)) k
          have k := ly_revb 1 (c' := (66, [(3, .int (Int32.ofInt (-1))), (0, .ref (q 0)), (1, .int v1), (2, .int v2)], [.int (Int32.ofInt 65536), .int ((((((J (q 0) 6).toInt64) * 1103515245) + 12345) - ((((J (q 0) 6).toInt64) * 1103515245) + 12345) / 2147483648 * 2147483648).toInt32)], me_w M (nt_u J (q 0) 6 ((((((J (q 0) 6).toInt64) * 1103515245) + 12345) - ((((J (q 0) 6).toInt64) * 1103515245) + 12345) / 2147483648 * 2147483648).toInt32)))) rfl k
          obtain ⟨hd66, k⟩ := mx_idiv rfl k
          have k := ly_revb 1 (c' := (69, [(3, .int (Int32.ofInt (-1))), (0, .ref (q 0)), (1, .int v1), (2, .int v2)], [.int (Int32.ofInt 100), .int (((((((J (q 0) 6).toInt64) * 1103515245) + 12345) - ((((J (q 0) 6).toInt64) * 1103515245) + 12345) / 2147483648 * 2147483648).toInt32) / (Int32.ofInt 65536))], me_w M (nt_u J (q 0) 6 ((((((J (q 0) 6).toInt64) * 1103515245) + 12345) - ((((J (q 0) 6).toInt64) * 1103515245) + 12345) / 2147483648 * 2147483648).toInt32)))) rfl k
          obtain ⟨hd69, k⟩ := mx_irem rfl k
          have k := ly_revb 2 (c' := (if v1 ≤ ((((((((J (q 0) 6).toInt64) * 1103515245) + 12345) - ((((J (q 0) 6).toInt64) * 1103515245) + 12345) / 2147483648 * 2147483648).toInt32) / (Int32.ofInt 65536)) - (((((((J (q 0) 6).toInt64) * 1103515245) + 12345) - ((((J (q 0) 6).toInt64) * 1103515245) + 12345) / 2147483648 * 2147483648).toInt32) / (Int32.ofInt 65536)) / (Int32.ofInt 100) * (Int32.ofInt 100)) then 94 else 74, [(3, .int (Int32.ofInt (-1))), (0, .ref (q 0)), (1, .int v1), (2, .int v2)], [], me_w M (nt_u J (q 0) 6 ((((((J (q 0) 6).toInt64) * 1103515245) + 12345) - ((((J (q 0) 6).toInt64) * 1103515245) + 12345) / 2147483648 * 2147483648).toInt32)))) rfl k
          by_cases h71 : v1 ≤ ((((((((J (q 0) 6).toInt64) * 1103515245) + 12345) - ((((J (q 0) 6).toInt64) * 1103515245) + 12345) / 2147483648 * 2147483648).toInt32) / (Int32.ofInt 65536)) - (((((((J (q 0) 6).toInt64) * 1103515245) + 12345) - ((((J (q 0) 6).toInt64) * 1103515245) + 12345) / 2147483648 * 2147483648).toInt32) / (Int32.ofInt 65536)) / (Int32.ofInt 100) * (Int32.ofInt 100))
          · rw [if_pos h71] at k
            have k := ly_revb 2 (c' := (2, [(2, .int (v2 + (Int32.ofInt 1))), (3, .int (Int32.ofInt (-1))), (0, .ref (q 0)), (1, .int v1)], [], me_w M (nt_u J (q 0) 6 ((((((J (q 0) 6).toInt64) * 1103515245) + 12345) - ((((J (q 0) 6).toInt64) * 1103515245) + 12345) / 2147483648 * 2147483648).toInt32)))) rfl k
            have k := nt_rn_w (a := [(2, .int (v2 + (Int32.ofInt 1))), (3, .int (Int32.ofInt (-1))), (0, .ref (q 0)), (1, .int v1)]) (b := [(0, .ref (q 0)), (1, .int v1), (2, .int (v2 + (Int32.ofInt 1))), (3, .int (Int32.ofInt (-1)))]) ⟨rfl, rfl, rfl, rfl, trivial⟩ rfl k
            have k := ih (v2 + (Int32.ofInt 1)) (Int32.ofInt (-1)) (nt_u J (q 0) 6 ((((((J (q 0) 6).toInt64) * 1103515245) + 12345) - ((((J (q 0) 6).toInt64) * 1103515245) + 12345) / 2147483648 * 2147483648).toInt32)) (by rw [show (nt_u J (q 0) 6 ((((((J (q 0) 6).toInt64) * 1103515245) + 12345) - ((((J (q 0) 6).toInt64) * 1103515245) + 12345) / 2147483648 * 2147483648).toInt32)) (q 1) 1 = J (q 1) 1 from mu_j (hq.2.1 1 0 (by omega) (by omega) (by decide))]; exact lx_dec h10 hc) k
            rw [k, x81_2, if_neg h10, if_neg h20, if_neg h35, if_pos h71]
          · rw [if_neg h71] at k
            have k := ly_revb 1 (c' := (75, [(3, .int (Int32.ofInt (-1))), (0, .ref (q 0)), (1, .int v1), (2, .int v2)], [.ref (q 0)], me_w M (nt_u J (q 0) 6 ((((((J (q 0) 6).toInt64) * 1103515245) + 12345) - ((((J (q 0) 6).toInt64) * 1103515245) + 12345) / 2147483648 * 2147483648).toInt32)))) rfl k
            have k := lz_get (a := (q 0)) (g := 610) (M := me_w M (nt_u J (q 0) 6 ((((((J (q 0) 6).toInt64) * 1103515245) + 12345) - ((((J (q 0) 6).toInt64) * 1103515245) + 12345) / 2147483648 * 2147483648).toInt32))) (v := .ref (q 13)) rfl (nt_gfR rfl (hq.1 (0, 10, 13) (by decide))) k
            have k := ly_revb 1 (c' := (79, [(3, .int (Int32.ofInt (-1))), (0, .ref (q 0)), (1, .int v1), (2, .int v2)], [.int (Int32.ofInt (-1)), .ref (q 13)], me_w M (nt_u J (q 0) 6 ((((((J (q 0) 6).toInt64) * 1103515245) + 12345) - ((((J (q 0) 6).toInt64) * 1103515245) + 12345) / 2147483648 * 2147483648).toInt32)))) rfl k
            have k := mx_iald (v := J (q 13) ((Int32.ofInt (-1)).toNatClampNeg)) rfl (hq.2.2.1 13 (by omega)) (mu_j (hq.2.1 13 0 (by omega) (by omega) (by decide))) k
            have k := ly_revb 2 (c' := (if (J (q 13) ((Int32.ofInt (-1)).toNatClampNeg)) ≤ (Int32.ofInt 1) then 94 else 84, [(3, .int (Int32.ofInt (-1))), (0, .ref (q 0)), (1, .int v1), (2, .int v2)], [], me_w M (nt_u J (q 0) 6 ((((((J (q 0) 6).toInt64) * 1103515245) + 12345) - ((((J (q 0) 6).toInt64) * 1103515245) + 12345) / 2147483648 * 2147483648).toInt32)))) rfl k
            by_cases h81 : (J (q 13) ((Int32.ofInt (-1)).toNatClampNeg)) ≤ (Int32.ofInt 1)
            · rw [if_pos h81] at k
              have k := ly_revb 2 (c' := (2, [(2, .int (v2 + (Int32.ofInt 1))), (3, .int (Int32.ofInt (-1))), (0, .ref (q 0)), (1, .int v1)], [], me_w M (nt_u J (q 0) 6 ((((((J (q 0) 6).toInt64) * 1103515245) + 12345) - ((((J (q 0) 6).toInt64) * 1103515245) + 12345) / 2147483648 * 2147483648).toInt32)))) rfl k
              have k := nt_rn_w (a := [(2, .int (v2 + (Int32.ofInt 1))), (3, .int (Int32.ofInt (-1))), (0, .ref (q 0)), (1, .int v1)]) (b := [(0, .ref (q 0)), (1, .int v1), (2, .int (v2 + (Int32.ofInt 1))), (3, .int (Int32.ofInt (-1)))]) ⟨rfl, rfl, rfl, rfl, trivial⟩ rfl k
              have k := ih (v2 + (Int32.ofInt 1)) (Int32.ofInt (-1)) (nt_u J (q 0) 6 ((((((J (q 0) 6).toInt64) * 1103515245) + 12345) - ((((J (q 0) 6).toInt64) * 1103515245) + 12345) / 2147483648 * 2147483648).toInt32)) (by rw [show (nt_u J (q 0) 6 ((((((J (q 0) 6).toInt64) * 1103515245) + 12345) - ((((J (q 0) 6).toInt64) * 1103515245) + 12345) / 2147483648 * 2147483648).toInt32)) (q 1) 1 = J (q 1) 1 from mu_j (hq.2.1 1 0 (by omega) (by omega) (by decide))]; exact lx_dec h10 hc) k
              rw [k, x81_2, if_neg h10, if_neg h20, if_neg h35, if_neg h71, if_pos h81]
            · rw [if_neg h81] at k
              have k := ly_revb 1 (c' := (85, [(3, .int (Int32.ofInt (-1))), (0, .ref (q 0)), (1, .int v1), (2, .int v2)], [.ref (q 0)], me_w M (nt_u J (q 0) 6 ((((((J (q 0) 6).toInt64) * 1103515245) + 12345) - ((((J (q 0) 6).toInt64) * 1103515245) + 12345) / 2147483648 * 2147483648).toInt32)))) rfl k
              have k := lz_get (a := (q 0)) (g := 610) (M := me_w M (nt_u J (q 0) 6 ((((((J (q 0) 6).toInt64) * 1103515245) + 12345) - ((((J (q 0) 6).toInt64) * 1103515245) + 12345) / 2147483648 * 2147483648).toInt32))) (v := .ref (q 13)) rfl (nt_gfR rfl (hq.1 (0, 10, 13) (by decide))) k
              have k := ly_revb 2 (c' := (90, [(3, .int (Int32.ofInt (-1))), (0, .ref (q 0)), (1, .int v1), (2, .int v2)], [.int (Int32.ofInt (-1)), .ref (q 13), .int (Int32.ofInt (-1)), .ref (q 13)], me_w M (nt_u J (q 0) 6 ((((((J (q 0) 6).toInt64) * 1103515245) + 12345) - ((((J (q 0) 6).toInt64) * 1103515245) + 12345) / 2147483648 * 2147483648).toInt32)))) rfl k
              have k := mx_iald (v := J (q 13) ((Int32.ofInt (-1)).toNatClampNeg)) rfl (hq.2.2.1 13 (by omega)) (mu_j (hq.2.1 13 0 (by omega) (by omega) (by decide))) k
              have k := ly_revb 2 (c' := (93, [(3, .int (Int32.ofInt (-1))), (0, .ref (q 0)), (1, .int v1), (2, .int v2)], [.int ((J (q 13) ((Int32.ofInt (-1)).toNatClampNeg)) - (Int32.ofInt 1)), .int (Int32.ofInt (-1)), .ref (q 13)], me_w M (nt_u J (q 0) 6 ((((((J (q 0) 6).toInt64) * 1103515245) + 12345) - ((((J (q 0) 6).toInt64) * 1103515245) + 12345) / 2147483648 * 2147483648).toInt32)))) rfl k
              have k := mx_iast (q := (Int32.ofInt (-1)).toNatClampNeg) rfl rfl k
              have k : nt_rn X _ 81 (94, [(3, .int (Int32.ofInt (-1))), (0, .ref (q 0)), (1, .int v1), (2, .int v2)], [], me_w M (nt_u (nt_u J (q 0) 6 ((((((J (q 0) 6).toInt64) * 1103515245) + 12345) - ((((J (q 0) 6).toInt64) * 1103515245) + 12345) / 2147483648 * 2147483648).toInt32)) (q 13) ((Int32.ofInt (-1)).toNatClampNeg) ((J (q 13) ((Int32.ofInt (-1)).toNatClampNeg)) - (Int32.ofInt 1)))) _ := k
              have k := ly_revb 2 (c' := (2, [(2, .int (v2 + (Int32.ofInt 1))), (3, .int (Int32.ofInt (-1))), (0, .ref (q 0)), (1, .int v1)], [], me_w M (nt_u (nt_u J (q 0) 6 ((((((J (q 0) 6).toInt64) * 1103515245) + 12345) - ((((J (q 0) 6).toInt64) * 1103515245) + 12345) / 2147483648 * 2147483648).toInt32)) (q 13) ((Int32.ofInt (-1)).toNatClampNeg) ((J (q 13) ((Int32.ofInt (-1)).toNatClampNeg)) - (Int32.ofInt 1))))) rfl k
              have k := nt_rn_w (a := [(2, .int (v2 + (Int32.ofInt 1))), (3, .int (Int32.ofInt (-1))), (0, .ref (q 0)), (1, .int v1)]) (b := [(0, .ref (q 0)), (1, .int v1), (2, .int (v2 + (Int32.ofInt 1))), (3, .int (Int32.ofInt (-1)))]) ⟨rfl, rfl, rfl, rfl, trivial⟩ rfl k
              have k := ih (v2 + (Int32.ofInt 1)) (Int32.ofInt (-1)) (nt_u (nt_u J (q 0) 6 ((((((J (q 0) 6).toInt64) * 1103515245) + 12345) - ((((J (q 0) 6).toInt64) * 1103515245) + 12345) / 2147483648 * 2147483648).toInt32)) (q 13) ((Int32.ofInt (-1)).toNatClampNeg) ((J (q 13) ((Int32.ofInt (-1)).toNatClampNeg)) - (Int32.ofInt 1))) (by rw [show (nt_u (nt_u J (q 0) 6 ((((((J (q 0) 6).toInt64) * 1103515245) + 12345) - ((((J (q 0) 6).toInt64) * 1103515245) + 12345) / 2147483648 * 2147483648).toInt32)) (q 13) ((Int32.ofInt (-1)).toNatClampNeg) ((J (q 13) ((Int32.ofInt (-1)).toNatClampNeg)) - (Int32.ofInt 1))) (q 1) 1 = J (q 1) 1 from (mu_j (hq.2.1 1 13 (by omega) (by omega) (by decide))).trans (mu_j (hq.2.1 1 0 (by omega) (by omega) (by decide)))]; exact lx_dec h10 hc) k
              rw [k, x81_2, if_neg h10, if_neg h20, if_neg h35, if_neg h71, if_neg h81]
theorem x81_2_rule {q : Nat → Nat} {v1 : Int32} {I : Nat → Int32 → (Nat → Nat → Int32) → Prop} {Q : (Nat → Nat → Int32) → Prop} (h0 : ∀ (v2 : Int32) (J : Nat → Nat → Int32), I 0 v2 J → Q J) (h1 : ∀ (c : Nat) (v2 : Int32) (J : Nat → Nat → Int32), I (c + 1) v2 J →
    if (J (q 1) 1) ≤ v2 then (Q J)
    else if (J (q 10) v2.toNatClampNeg) = (Int32.ofInt 1) then if (x82 q v2 J) = (Int32.ofInt (-1)) then (I c (v2 + (Int32.ofInt 1)) J)
        else if v1 ≤ ((((((((J (q 0) 6).toInt64) * 1103515245) + 12345) - ((((J (q 0) 6).toInt64) * 1103515245) + 12345) / 2147483648 * 2147483648).toInt32) / (Int32.ofInt 65536)) - (((((((J (q 0) 6).toInt64) * 1103515245) + 12345) - ((((J (q 0) 6).toInt64) * 1103515245) + 12345) / 2147483648 * 2147483648).toInt32) / (Int32.ofInt 65536)) / (Int32.ofInt 100) * (Int32.ofInt 100)) then (I c (v2 + (Int32.ofInt 1)) (nt_u J (q 0) 6 ((((((J (q 0) 6).toInt64) * 1103515245) + 12345) - ((((J (q 0) 6).toInt64) * 1103515245) + 12345) / 2147483648 * 2147483648).toInt32)))
          else if (J (q 13) ((x82 q v2 J).toNatClampNeg)) ≤ (Int32.ofInt 1) then (I c (v2 + (Int32.ofInt 1)) (nt_u J (q 0) 6 ((((((J (q 0) 6).toInt64) * 1103515245) + 12345) - ((((J (q 0) 6).toInt64) * 1103515245) + 12345) / 2147483648 * 2147483648).toInt32)))
            else (I c (v2 + (Int32.ofInt 1)) (nt_u (nt_u J (q 0) 6 ((((((J (q 0) 6).toInt64) * 1103515245) + 12345) - ((((J (q 0) 6).toInt64) * 1103515245) + 12345) / 2147483648 * 2147483648).toInt32)) (q 13) ((x82 q v2 J).toNatClampNeg) ((J (q 13) ((x82 q v2 J).toNatClampNeg)) - (Int32.ofInt 1))))
      else if (Int32.ofInt (-1)) = (Int32.ofInt (-1)) then (I c (v2 + (Int32.ofInt 1)) J)
        else if v1 ≤ ((((((((J (q 0) 6).toInt64) * 1103515245) + 12345) - ((((J (q 0) 6).toInt64) * 1103515245) + 12345) / 2147483648 * 2147483648).toInt32) / (Int32.ofInt 65536)) - (((((((J (q 0) 6).toInt64) * 1103515245) + 12345) - ((((J (q 0) 6).toInt64) * 1103515245) + 12345) / 2147483648 * 2147483648).toInt32) / (Int32.ofInt 65536)) / (Int32.ofInt 100) * (Int32.ofInt 100)) then (I c (v2 + (Int32.ofInt 1)) (nt_u J (q 0) 6 ((((((J (q 0) 6).toInt64) * 1103515245) + 12345) - ((((J (q 0) 6).toInt64) * 1103515245) + 12345) / 2147483648 * 2147483648).toInt32)))
          else if (J (q 13) ((Int32.ofInt (-1)).toNatClampNeg)) ≤ (Int32.ofInt 1) then (I c (v2 + (Int32.ofInt 1)) (nt_u J (q 0) 6 ((((((J (q 0) 6).toInt64) * 1103515245) + 12345) - ((((J (q 0) 6).toInt64) * 1103515245) + 12345) / 2147483648 * 2147483648).toInt32)))
            else (I c (v2 + (Int32.ofInt 1)) (nt_u (nt_u J (q 0) 6 ((((((J (q 0) 6).toInt64) * 1103515245) + 12345) - ((((J (q 0) 6).toInt64) * 1103515245) + 12345) / 2147483648 * 2147483648).toInt32)) (q 13) ((Int32.ofInt (-1)).toNatClampNeg) ((J (q 13) ((Int32.ofInt (-1)).toNatClampNeg)) - (Int32.ofInt 1))))) : ∀ (c : Nat) (v2 : Int32) (J : Nat → Nat → Int32), I c v2 J → Q (x81_2 q v1 c v2 J) := by
  intro c
  induction c with
  | zero =>
    intro v2 J hi
    rw [x81_2]
    exact h0 v2 J hi
  | succ c ih =>
    intro v2 J hi
    have hi := h1 c v2 J hi
    rw [x81_2]
    by_cases h : (J (q 1) 1) ≤ v2
    · rw [if_pos h] at hi ⊢
      exact hi
    · rw [if_neg h] at hi ⊢
      by_cases h : (J (q 10) v2.toNatClampNeg) = (Int32.ofInt 1)
      · rw [if_pos h] at hi ⊢
        by_cases h : (x82 q v2 J) = (Int32.ofInt (-1))
        · rw [if_pos h] at hi ⊢
          exact ih _ _ hi
        · rw [if_neg h] at hi ⊢
          by_cases h : v1 ≤ ((((((((J (q 0) 6).toInt64) * 1103515245) + 12345) - ((((J (q 0) 6).toInt64) * 1103515245) + 12345) / 2147483648 * 2147483648).toInt32) / (Int32.ofInt 65536)) - (((((((J (q 0) 6).toInt64) * 1103515245) + 12345) - ((((J (q 0) 6).toInt64) * 1103515245) + 12345) / 2147483648 * 2147483648).toInt32) / (Int32.ofInt 65536)) / (Int32.ofInt 100) * (Int32.ofInt 100))
          · rw [if_pos h] at hi ⊢
            exact ih _ _ hi
          · rw [if_neg h] at hi ⊢
            by_cases h : (J (q 13) ((x82 q v2 J).toNatClampNeg)) ≤ (Int32.ofInt 1)
            · rw [if_pos h] at hi ⊢
              exact ih _ _ hi
            · rw [if_neg h] at hi ⊢
              exact ih _ _ hi
      · rw [if_neg h] at hi ⊢
        by_cases h : (Int32.ofInt (-1)) = (Int32.ofInt (-1))
        · rw [if_pos h] at hi ⊢
          exact ih _ _ hi
        · rw [if_neg h] at hi ⊢
          by_cases h : v1 ≤ ((((((((J (q 0) 6).toInt64) * 1103515245) + 12345) - ((((J (q 0) 6).toInt64) * 1103515245) + 12345) / 2147483648 * 2147483648).toInt32) / (Int32.ofInt 65536)) - (((((((J (q 0) 6).toInt64) * 1103515245) + 12345) - ((((J (q 0) 6).toInt64) * 1103515245) + 12345) / 2147483648 * 2147483648).toInt32) / (Int32.ofInt 65536)) / (Int32.ofInt 100) * (Int32.ofInt 100))
          · rw [if_pos h] at hi ⊢
            exact ih _ _ hi
          · rw [if_neg h] at hi ⊢
            by_cases h : (J (q 13) ((Int32.ofInt (-1)).toNatClampNeg)) ≤ (Int32.ofInt 1)
            · rw [if_pos h] at hi ⊢
              exact ih _ _ hi
            · rw [if_neg h] at hi ⊢
              exact ih _ _ hi
def x81 (q : Nat → Nat) (v1 : Int32) (J : Nat → Nat → Int32) : (Nat → Nat → Int32) := (x81_2 q v1 ((J (q 1) 1).toNatClampNeg) (Int32.ofInt 0) J)
theorem xt81 {X : nt_X} {d : Nat} {M : nt_M} {o : Option Value × nt_M} {q : Nat → Nat} {v1 : Int32} {J : Nat → Nat → Int32} (hq : xs_Q M q) (k : nt_ev X d 81 [.ref (q 0), .int v1] (me_w M J) o) : o = (none, me_w M (x81 q v1 J)) := by
  have k : nt_rn X d 81 (0, [(0, .ref (q 0)), (1, .int v1)], [], me_w M J) o := k
  have k := ly_revb 2 (c' := (2, [(2, .int (Int32.ofInt 0)), (0, .ref (q 0)), (1, .int v1)], [], me_w M J)) rfl k
  have k := nt_rn_w (a := [(2, .int (Int32.ofInt 0)), (0, .ref (q 0)), (1, .int v1)]) (b := [(0, .ref (q 0)), (1, .int v1), (2, .int (Int32.ofInt 0)), (3, .int (Int32.ofInt 0))]) ⟨rfl, rfl, rfl, trivial⟩ rfl k
  have k := xt81_2 hq  ((J (q 1) 1).toNatClampNeg) (Int32.ofInt 0) (Int32.ofInt 0) J (lx_beg (by decide)) k
  rw [k, x81]
theorem x81_2_frJ {q : Nat → Nat} {v1 : Int32} {b : Nat} : ∀ (c : Nat) (v2 : Int32) (J : Nat → Nat → Int32), b ≠ q 0 → b ≠ q 13 → x81_2 q v1 c v2 J b = J b := by
  intro c
  induction c with
  | zero =>
    intro v2 J n0 n1
    rw [x81_2]
    all_goals first | (dsimp only; exact (show J b = J b from rfl)) | exact (show J b = J b from rfl)
  | succ c ih =>
    intro v2 J n0 n1
    rw [x81_2]
    by_cases h : (J (q 1) 1) ≤ v2
    · rw [if_pos h]
      all_goals first | (dsimp only; exact (show J b = J b from rfl)) | exact (show J b = J b from rfl)
    · rw [if_neg h]
      by_cases h : (J (q 10) v2.toNatClampNeg) = (Int32.ofInt 1)
      · rw [if_pos h]
        by_cases h : (x82 q v2 J) = (Int32.ofInt (-1))
        · rw [if_pos h]
          exact (ih _ _ n0 n1).trans (rfl)
        · rw [if_neg h]
          by_cases h : v1 ≤ ((((((((J (q 0) 6).toInt64) * 1103515245) + 12345) - ((((J (q 0) 6).toInt64) * 1103515245) + 12345) / 2147483648 * 2147483648).toInt32) / (Int32.ofInt 65536)) - (((((((J (q 0) 6).toInt64) * 1103515245) + 12345) - ((((J (q 0) 6).toInt64) * 1103515245) + 12345) / 2147483648 * 2147483648).toInt32) / (Int32.ofInt 65536)) / (Int32.ofInt 100) * (Int32.ofInt 100))
          · rw [if_pos h]
            exact (ih _ _ n0 n1).trans (mu_o n0)
          · rw [if_neg h]
            by_cases h : (J (q 13) ((x82 q v2 J).toNatClampNeg)) ≤ (Int32.ofInt 1)
            · rw [if_pos h]
              exact (ih _ _ n0 n1).trans (mu_o n0)
            · rw [if_neg h]
              exact (ih _ _ n0 n1).trans ((mu_o n1).trans (mu_o n0))
      · rw [if_neg h]
        by_cases h : (Int32.ofInt (-1)) = (Int32.ofInt (-1))
        · rw [if_pos h]
          exact (ih _ _ n0 n1).trans (rfl)
        · rw [if_neg h]
          by_cases h : v1 ≤ ((((((((J (q 0) 6).toInt64) * 1103515245) + 12345) - ((((J (q 0) 6).toInt64) * 1103515245) + 12345) / 2147483648 * 2147483648).toInt32) / (Int32.ofInt 65536)) - (((((((J (q 0) 6).toInt64) * 1103515245) + 12345) - ((((J (q 0) 6).toInt64) * 1103515245) + 12345) / 2147483648 * 2147483648).toInt32) / (Int32.ofInt 65536)) / (Int32.ofInt 100) * (Int32.ofInt 100))
          · rw [if_pos h]
            exact (ih _ _ n0 n1).trans (mu_o n0)
          · rw [if_neg h]
            by_cases h : (J (q 13) ((Int32.ofInt (-1)).toNatClampNeg)) ≤ (Int32.ofInt 1)
            · rw [if_pos h]
              exact (ih _ _ n0 n1).trans (mu_o n0)
            · rw [if_neg h]
              exact (ih _ _ n0 n1).trans ((mu_o n1).trans (mu_o n0))
theorem x81_frJ {q : Nat → Nat} {v1 : Int32} {J : Nat → Nat → Int32} {b : Nat} (n0 : b ≠ q 0) (n1 : b ≠ q 13) : x81 q v1 J b = J b := by
  unfold x81
  exact (x81_2_frJ _ _ _ n0 n1).trans (rfl)
/-! java/lang/Integer.bitCount -/
def x236 (v0 : Int32) : Int32 := ((((((((v0 - (((v0.toUInt32 >>> ((Int32.ofInt 1).toUInt32 &&& Int32.toUInt32 31)).toInt32) &&& (Int32.ofInt 1431655765))) &&& (Int32.ofInt 858993459)) + ((((v0 - (((v0.toUInt32 >>> ((Int32.ofInt 1).toUInt32 &&& Int32.toUInt32 31)).toInt32) &&& (Int32.ofInt 1431655765))).toUInt32 >>> ((Int32.ofInt 2).toUInt32 &&& Int32.toUInt32 31)).toInt32) &&& (Int32.ofInt 858993459))) + (((((v0 - (((v0.toUInt32 >>> ((Int32.ofInt 1).toUInt32 &&& Int32.toUInt32 31)).toInt32) &&& (Int32.ofInt 1431655765))) &&& (Int32.ofInt 858993459)) + ((((v0 - (((v0.toUInt32 >>> ((Int32.ofInt 1).toUInt32 &&& Int32.toUInt32 31)).toInt32) &&& (Int32.ofInt 1431655765))).toUInt32 >>> ((Int32.ofInt 2).toUInt32 &&& Int32.toUInt32 31)).toInt32) &&& (Int32.ofInt 858993459))).toUInt32 >>> ((Int32.ofInt 4).toUInt32 &&& Int32.toUInt32 31)).toInt32)) &&& (Int32.ofInt 252645135)) + (((((((v0 - (((v0.toUInt32 >>> ((Int32.ofInt 1).toUInt32 &&& Int32.toUInt32 31)).toInt32) &&& (Int32.ofInt 1431655765))) &&& (Int32.ofInt 858993459)) + ((((v0 - (((v0.toUInt32 >>> ((Int32.ofInt 1).toUInt32 &&& Int32.toUInt32 31)).toInt32) &&& (Int32.ofInt 1431655765))).toUInt32 >>> ((Int32.ofInt 2).toUInt32 &&& Int32.toUInt32 31)).toInt32) &&& (Int32.ofInt 858993459))) + (((((v0 - (((v0.toUInt32 >>> ((Int32.ofInt 1).toUInt32 &&& Int32.toUInt32 31)).toInt32) &&& (Int32.ofInt 1431655765))) &&& (Int32.ofInt 858993459)) + ((((v0 - (((v0.toUInt32 >>> ((Int32.ofInt 1).toUInt32 &&& Int32.toUInt32 31)).toInt32) &&& (Int32.ofInt 1431655765))).toUInt32 >>> ((Int32.ofInt 2).toUInt32 &&& Int32.toUInt32 31)).toInt32) &&& (Int32.ofInt 858993459))).toUInt32 >>> ((Int32.ofInt 4).toUInt32 &&& Int32.toUInt32 31)).toInt32)) &&& (Int32.ofInt 252645135)).toUInt32 >>> ((Int32.ofInt 8).toUInt32 &&& Int32.toUInt32 31)).toInt32)) + ((((((((v0 - (((v0.toUInt32 >>> ((Int32.ofInt 1).toUInt32 &&& Int32.toUInt32 31)).toInt32) &&& (Int32.ofInt 1431655765))) &&& (Int32.ofInt 858993459)) + ((((v0 - (((v0.toUInt32 >>> ((Int32.ofInt 1).toUInt32 &&& Int32.toUInt32 31)).toInt32) &&& (Int32.ofInt 1431655765))).toUInt32 >>> ((Int32.ofInt 2).toUInt32 &&& Int32.toUInt32 31)).toInt32) &&& (Int32.ofInt 858993459))) + (((((v0 - (((v0.toUInt32 >>> ((Int32.ofInt 1).toUInt32 &&& Int32.toUInt32 31)).toInt32) &&& (Int32.ofInt 1431655765))) &&& (Int32.ofInt 858993459)) + ((((v0 - (((v0.toUInt32 >>> ((Int32.ofInt 1).toUInt32 &&& Int32.toUInt32 31)).toInt32) &&& (Int32.ofInt 1431655765))).toUInt32 >>> ((Int32.ofInt 2).toUInt32 &&& Int32.toUInt32 31)).toInt32) &&& (Int32.ofInt 858993459))).toUInt32 >>> ((Int32.ofInt 4).toUInt32 &&& Int32.toUInt32 31)).toInt32)) &&& (Int32.ofInt 252645135)) + (((((((v0 - (((v0.toUInt32 >>> ((Int32.ofInt 1).toUInt32 &&& Int32.toUInt32 31)).toInt32) &&& (Int32.ofInt 1431655765))) &&& (Int32.ofInt 858993459)) + ((((v0 - (((v0.toUInt32 >>> ((Int32.ofInt 1).toUInt32 &&& Int32.toUInt32 31)).toInt32) &&& (Int32.ofInt 1431655765))).toUInt32 >>> ((Int32.ofInt 2).toUInt32 &&& Int32.toUInt32 31)).toInt32) &&& (Int32.ofInt 858993459))) + (((((v0 - (((v0.toUInt32 >>> ((Int32.ofInt 1).toUInt32 &&& Int32.toUInt32 31)).toInt32) &&& (Int32.ofInt 1431655765))) &&& (Int32.ofInt 858993459)) + ((((v0 - (((v0.toUInt32 >>> ((Int32.ofInt 1).toUInt32 &&& Int32.toUInt32 31)).toInt32) &&& (Int32.ofInt 1431655765))).toUInt32 >>> ((Int32.ofInt 2).toUInt32 &&& Int32.toUInt32 31)).toInt32) &&& (Int32.ofInt 858993459))).toUInt32 >>> ((Int32.ofInt 4).toUInt32 &&& Int32.toUInt32 31)).toInt32)) &&& (Int32.ofInt 252645135)).toUInt32 >>> ((Int32.ofInt 8).toUInt32 &&& Int32.toUInt32 31)).toInt32)).toUInt32 >>> ((Int32.ofInt 16).toUInt32 &&& Int32.toUInt32 31)).toInt32)) &&& (Int32.ofInt 63))
theorem xt236 {X : nt_X} {d : Nat} {M : nt_M} {o : Option Value × nt_M} {v0 : Int32} {J : Nat → Nat → Int32}  (k : nt_ev X d 236 [.int v0] (me_w M J) o) : o = (some (.int (x236 v0)), me_w M J) := by
  have k : nt_rn X d 236 (0, [(0, .int v0)], [], me_w M J) o := k
  have k := ly_revb 41 (c' := (52, [(0, .int (((((((v0 - (((v0.toUInt32 >>> ((Int32.ofInt 1).toUInt32 &&& Int32.toUInt32 31)).toInt32) &&& (Int32.ofInt 1431655765))) &&& (Int32.ofInt 858993459)) + ((((v0 - (((v0.toUInt32 >>> ((Int32.ofInt 1).toUInt32 &&& Int32.toUInt32 31)).toInt32) &&& (Int32.ofInt 1431655765))).toUInt32 >>> ((Int32.ofInt 2).toUInt32 &&& Int32.toUInt32 31)).toInt32) &&& (Int32.ofInt 858993459))) + (((((v0 - (((v0.toUInt32 >>> ((Int32.ofInt 1).toUInt32 &&& Int32.toUInt32 31)).toInt32) &&& (Int32.ofInt 1431655765))) &&& (Int32.ofInt 858993459)) + ((((v0 - (((v0.toUInt32 >>> ((Int32.ofInt 1).toUInt32 &&& Int32.toUInt32 31)).toInt32) &&& (Int32.ofInt 1431655765))).toUInt32 >>> ((Int32.ofInt 2).toUInt32 &&& Int32.toUInt32 31)).toInt32) &&& (Int32.ofInt 858993459))).toUInt32 >>> ((Int32.ofInt 4).toUInt32 &&& Int32.toUInt32 31)).toInt32)) &&& (Int32.ofInt 252645135)) + (((((((v0 - (((v0.toUInt32 >>> ((Int32.ofInt 1).toUInt32 &&& Int32.toUInt32 31)).toInt32) &&& (Int32.ofInt 1431655765))) &&& (Int32.ofInt 858993459)) + ((((v0 - (((v0.toUInt32 >>> ((Int32.ofInt 1).toUInt32 &&& Int32.toUInt32 31)).toInt32) &&& (Int32.ofInt 1431655765))).toUInt32 >>> ((Int32.ofInt 2).toUInt32 &&& Int32.toUInt32 31)).toInt32) &&& (Int32.ofInt 858993459))) + (((((v0 - (((v0.toUInt32 >>> ((Int32.ofInt 1).toUInt32 &&& Int32.toUInt32 31)).toInt32) &&& (Int32.ofInt 1431655765))) &&& (Int32.ofInt 858993459)) + ((((v0 - (((v0.toUInt32 >>> ((Int32.ofInt 1).toUInt32 &&& Int32.toUInt32 31)).toInt32) &&& (Int32.ofInt 1431655765))).toUInt32 >>> ((Int32.ofInt 2).toUInt32 &&& Int32.toUInt32 31)).toInt32) &&& (Int32.ofInt 858993459))).toUInt32 >>> ((Int32.ofInt 4).toUInt32 &&& Int32.toUInt32 31)).toInt32)) &&& (Int32.ofInt 252645135)).toUInt32 >>> ((Int32.ofInt 8).toUInt32 &&& Int32.toUInt32 31)).toInt32)) + ((((((((v0 - (((v0.toUInt32 >>> ((Int32.ofInt 1).toUInt32 &&& Int32.toUInt32 31)).toInt32) &&& (Int32.ofInt 1431655765))) &&& (Int32.ofInt 858993459)) + ((((v0 - (((v0.toUInt32 >>> ((Int32.ofInt 1).toUInt32 &&& Int32.toUInt32 31)).toInt32) &&& (Int32.ofInt 1431655765))).toUInt32 >>> ((Int32.ofInt 2).toUInt32 &&& Int32.toUInt32 31)).toInt32) &&& (Int32.ofInt 858993459))) + (((((v0 - (((v0.toUInt32 >>> ((Int32.ofInt 1).toUInt32 &&& Int32.toUInt32 31)).toInt32) &&& (Int32.ofInt 1431655765))) &&& (Int32.ofInt 858993459)) + ((((v0 - (((v0.toUInt32 >>> ((Int32.ofInt 1).toUInt32 &&& Int32.toUInt32 31)).toInt32) &&& (Int32.ofInt 1431655765))).toUInt32 >>> ((Int32.ofInt 2).toUInt32 &&& Int32.toUInt32 31)).toInt32) &&& (Int32.ofInt 858993459))).toUInt32 >>> ((Int32.ofInt 4).toUInt32 &&& Int32.toUInt32 31)).toInt32)) &&& (Int32.ofInt 252645135)) + (((((((v0 - (((v0.toUInt32 >>> ((Int32.ofInt 1).toUInt32 &&& Int32.toUInt32 31)).toInt32) &&& (Int32.ofInt 1431655765))) &&& (Int32.ofInt 858993459)) + ((((v0 - (((v0.toUInt32 >>> ((Int32.ofInt 1).toUInt32 &&& Int32.toUInt32 31)).toInt32) &&& (Int32.ofInt 1431655765))).toUInt32 >>> ((Int32.ofInt 2).toUInt32 &&& Int32.toUInt32 31)).toInt32) &&& (Int32.ofInt 858993459))) + (((((v0 - (((v0.toUInt32 >>> ((Int32.ofInt 1).toUInt32 &&& Int32.toUInt32 31)).toInt32) &&& (Int32.ofInt 1431655765))) &&& (Int32.ofInt 858993459)) + ((((v0 - (((v0.toUInt32 >>> ((Int32.ofInt 1).toUInt32 &&& Int32.toUInt32 31)).toInt32) &&& (Int32.ofInt 1431655765))).toUInt32 >>> ((Int32.ofInt 2).toUInt32 &&& Int32.toUInt32 31)).toInt32) &&& (Int32.ofInt 858993459))).toUInt32 >>> ((Int32.ofInt 4).toUInt32 &&& Int32.toUInt32 31)).toInt32)) &&& (Int32.ofInt 252645135)).toUInt32 >>> ((Int32.ofInt 8).toUInt32 &&& Int32.toUInt32 31)).toInt32)).toUInt32 >>> ((Int32.ofInt 16).toUInt32 &&& Int32.toUInt32 31)).toInt32)))], [.int ((((((((v0 - (((v0.toUInt32 >>> ((Int32.ofInt 1).toUInt32 &&& Int32.toUInt32 31)).toInt32) &&& (Int32.ofInt 1431655765))) &&& (Int32.ofInt 858993459)) + ((((v0 - (((v0.toUInt32 >>> ((Int32.ofInt 1).toUInt32 &&& Int32.toUInt32 31)).toInt32) &&& (Int32.ofInt 1431655765))).toUInt32 >>> ((Int32.ofInt 2).toUInt32 &&& Int32.toUInt32 31)).toInt32) &&& (Int32.ofInt 858993459))) + (((((v0 - (((v0.toUInt32 >>> ((Int32.ofInt 1).toUInt32 &&& Int32.toUInt32 31)).toInt32) &&& (Int32.ofInt 1431655765))) &&& (Int32.ofInt 858993459)) + ((((v0 - (((v0.toUInt32 >>> ((Int32.ofInt 1).toUInt32 &&& Int32.toUInt32 31)).toInt32) &&& (Int32.ofInt 1431655765))).toUInt32 >>> ((Int32.ofInt 2).toUInt32 &&& Int32.toUInt32 31)).toInt32) &&& (Int32.ofInt 858993459))).toUInt32 >>> ((Int32.ofInt 4).toUInt32 &&& Int32.toUInt32 31)).toInt32)) &&& (Int32.ofInt 252645135)) + (((((((v0 - (((v0.toUInt32 >>> ((Int32.ofInt 1).toUInt32 &&& Int32.toUInt32 31)).toInt32) &&& (Int32.ofInt 1431655765))) &&& (Int32.ofInt 858993459)) + ((((v0 - (((v0.toUInt32 >>> ((Int32.ofInt 1).toUInt32 &&& Int32.toUInt32 31)).toInt32) &&& (Int32.ofInt 1431655765))).toUInt32 >>> ((Int32.ofInt 2).toUInt32 &&& Int32.toUInt32 31)).toInt32) &&& (Int32.ofInt 858993459))) + (((((v0 - (((v0.toUInt32 >>> ((Int32.ofInt 1).toUInt32 &&& Int32.toUInt32 31)).toInt32) &&& (Int32.ofInt 1431655765))) &&& (Int32.ofInt 858993459)) + ((((v0 - (((v0.toUInt32 >>> ((Int32.ofInt 1).toUInt32 &&& Int32.toUInt32 31)).toInt32) &&& (Int32.ofInt 1431655765))).toUInt32 >>> ((Int32.ofInt 2).toUInt32 &&& Int32.toUInt32 31)).toInt32) &&& (Int32.ofInt 858993459))).toUInt32 >>> ((Int32.ofInt 4).toUInt32 &&& Int32.toUInt32 31)).toInt32)) &&& (Int32.ofInt 252645135)).toUInt32 >>> ((Int32.ofInt 8).toUInt32 &&& Int32.toUInt32 31)).toInt32)) + ((((((((v0 - (((v0.toUInt32 >>> ((Int32.ofInt 1).toUInt32 &&& Int32.toUInt32 31)).toInt32) &&& (Int32.ofInt 1431655765))) &&& (Int32.ofInt 858993459)) + ((((v0 - (((v0.toUInt32 >>> ((Int32.ofInt 1).toUInt32 &&& Int32.toUInt32 31)).toInt32) &&& (Int32.ofInt 1431655765))).toUInt32 >>> ((Int32.ofInt 2).toUInt32 &&& Int32.toUInt32 31)).toInt32) &&& (Int32.ofInt 858993459))) + (((((v0 - (((v0.toUInt32 >>> ((Int32.ofInt 1).toUInt32 &&& Int32.toUInt32 31)).toInt32) &&& (Int32.ofInt 1431655765))) &&& (Int32.ofInt 858993459)) + ((((v0 - (((v0.toUInt32 >>> ((Int32.ofInt 1).toUInt32 &&& Int32.toUInt32 31)).toInt32) &&& (Int32.ofInt 1431655765))).toUInt32 >>> ((Int32.ofInt 2).toUInt32 &&& Int32.toUInt32 31)).toInt32) &&& (Int32.ofInt 858993459))).toUInt32 >>> ((Int32.ofInt 4).toUInt32 &&& Int32.toUInt32 31)).toInt32)) &&& (Int32.ofInt 252645135)) + (((((((v0 - (((v0.toUInt32 >>> ((Int32.ofInt 1).toUInt32 &&& Int32.toUInt32 31)).toInt32) &&& (Int32.ofInt 1431655765))) &&& (Int32.ofInt 858993459)) + ((((v0 - (((v0.toUInt32 >>> ((Int32.ofInt 1).toUInt32 &&& Int32.toUInt32 31)).toInt32) &&& (Int32.ofInt 1431655765))).toUInt32 >>> ((Int32.ofInt 2).toUInt32 &&& Int32.toUInt32 31)).toInt32) &&& (Int32.ofInt 858993459))) + (((((v0 - (((v0.toUInt32 >>> ((Int32.ofInt 1).toUInt32 &&& Int32.toUInt32 31)).toInt32) &&& (Int32.ofInt 1431655765))) &&& (Int32.ofInt 858993459)) + ((((v0 - (((v0.toUInt32 >>> ((Int32.ofInt 1).toUInt32 &&& Int32.toUInt32 31)).toInt32) &&& (Int32.ofInt 1431655765))).toUInt32 >>> ((Int32.ofInt 2).toUInt32 &&& Int32.toUInt32 31)).toInt32) &&& (Int32.ofInt 858993459))).toUInt32 >>> ((Int32.ofInt 4).toUInt32 &&& Int32.toUInt32 31)).toInt32)) &&& (Int32.ofInt 252645135)).toUInt32 >>> ((Int32.ofInt 8).toUInt32 &&& Int32.toUInt32 31)).toInt32)).toUInt32 >>> ((Int32.ofInt 16).toUInt32 &&& Int32.toUInt32 31)).toInt32)) &&& (Int32.ofInt 63))], me_w M J)) rfl k
  have k := lz_ri rfl (by decide) k
  rw [k, x236]
/-! .years -/
def x125_114 (p : Nat → Nat) (sp : Nat) (ln : Nat) (v1 : Int32) (v2 : Int32) (v3 : Int32) (v4 : Int32) (v5 : Int32) (v6 : Int32) (v7 : Int32) (v9 : Int32) : Nat → Int32 → (Nat → Nat → Int32) → (Nat → Nat → Int64) → (Nat → Nat → Int32) × (Nat → Nat → Int64)
  | 0, v10, J, L => (J, L)
  | c + 1, v10, J, L => if v3 ≤ v10 then (J, L)
    else if (Int32.ofInt 99) < (J (p 48) 2) then (J, L)
      else (x125_114 p sp ln v1 v2 v3 v4 v5 v6 v7 v9 c (v10 + (Int32.ofInt 1)) (x81 (fun i => p (48 + i)) v4 ((x1 p (fun i => p (48 + i)) sp ln J L).1)) ((x1 p (fun i => p (48 + i)) sp ln J L).2))
theorem xt125_114 {X : nt_X} {d : Nat} {M : nt_M} {o : Option Value × nt_M} {p : Nat → Nat} {sp : Nat} {ln : Nat} {ru : Nat} {v1 : Int32} {v2 : Int32} {v3 : Int32} {v4 : Int32} {v5 : Int32} {v6 : Int32} {v7 : Int32} {v8 : Int32} {v9 : Int32} (hp : xs_P M p) (hn : xs_Q M (fun i => p (31 + i))) (hm : xs_Q M (fun i => p (48 + i))) (hk : xs_N M (fun i => p (48 + i))) (hs : xs_S M p ru sp ln) (h0 : ¬ v1 < 0) (hr : nt_R M (p 23) v1.toNatClampNeg = some ru) : ∀ (c : Nat) (v10 : Int32) (J : Nat → Nat → Int32) (L : Nat → Nat → Int64), (¬ J (p 16) 4 ≤ v1 ∧ v3.toInt - v10.toInt ≤ c) → nt_rn X d 125 (114, [(0, .ref (p 16)), (1, .int v1), (2, .int v2), (3, .int v3), (4, .int v4), (5, .int v5), (6, .int v6), (7, .int v7), (8, .int v8), (9, .int v9), (10, .int v10)], [], me_w (lw M L) J) o → ∃ (w10 : Int32), nt_rn X d 125 (163, [(0, .ref (p 16)), (1, .int v1), (2, .int v2), (3, .int v3), (4, .int v4), (5, .int v5), (6, .int v6), (7, .int v7), (8, .int v8), (9, .int v9), (10, .int w10)], [], me_w (lw M ((x125_114 p sp ln v1 v2 v3 v4 v5 v6 v7 v9 c v10 J L).2)) ((x125_114 p sp ln v1 v2 v3 v4 v5 v6 v7 v9 c v10 J L).1)) o := by
  intro c
  induction c with
  | zero =>
    intro v10 J L hc k
    have k := ly_revb 3 (c' := (if v3 ≤ v10 then 163 else 120, [(0, .ref (p 16)), (1, .int v1), (2, .int v2), (3, .int v3), (4, .int v4), (5, .int v5), (6, .int v6), (7, .int v7), (8, .int v8), (9, .int v9), (10, .int v10)], [], me_w (lw M L) J)) rfl k
    have h117 : v3 ≤ v10 := lx_end hc.2
    rw [if_pos h117] at k
    have k := nt_rn_w (a := [(0, .ref (p 16)), (1, .int v1), (2, .int v2), (3, .int v3), (4, .int v4), (5, .int v5), (6, .int v6), (7, .int v7), (8, .int v8), (9, .int v9), (10, .int v10)]) (b := [(0, .ref (p 16)), (1, .int v1), (2, .int v2), (3, .int v3), (4, .int v4), (5, .int v5), (6, .int v6), (7, .int v7), (8, .int v8), (9, .int v9), (10, .int v10)]) ⟨rfl, rfl, rfl, rfl, rfl, rfl, rfl, rfl, rfl, rfl, rfl, trivial⟩ rfl k
    rw [x125_114]
    exact ⟨_, k⟩
  | succ c ih =>
    intro v10 J L hc k
    have k := ly_revb 3 (c' := (if v3 ≤ v10 then 163 else 120, [(0, .ref (p 16)), (1, .int v1), (2, .int v2), (3, .int v3), (4, .int v4), (5, .int v5), (6, .int v6), (7, .int v7), (8, .int v8), (9, .int v9), (10, .int v10)], [], me_w (lw M L) J)) rfl k
    by_cases h117 : v3 ≤ v10
    · rw [if_pos h117] at k
      have k := nt_rn_w (a := [(0, .ref (p 16)), (1, .int v1), (2, .int v2), (3, .int v3), (4, .int v4), (5, .int v5), (6, .int v6), (7, .int v7), (8, .int v8), (9, .int v9), (10, .int v10)]) (b := [(0, .ref (p 16)), (1, .int v1), (2, .int v2), (3, .int v3), (4, .int v4), (5, .int v5), (6, .int v6), (7, .int v7), (8, .int v8), (9, .int v9), (10, .int v10)]) ⟨rfl, rfl, rfl, rfl, rfl, rfl, rfl, rfl, rfl, rfl, rfl, trivial⟩ rfl k
      rw [x125_114, if_pos h117]
      exact ⟨_, k⟩
    · rw [if_neg h117] at k
      have k := ly_revb 1 (c' := (121, [(0, .ref (p 16)), (1, .int v1), (2, .int v2), (3, .int v3), (4, .int v4), (5, .int v5), (6, .int v6), (7, .int v7), (8, .int v8), (9, .int v9), (10, .int v10)], [.ref (p 16)], me_w (lw M L) J)) rfl k
      have k := lz_get (a := (p 16)) (g := 1008) (M := me_w (lw M L) J) (v := .ref (p 48)) rfl (nt_gfR rfl (hp.1 (16, 8, 48) (by decide))) k
      have k := lz_get (a := (p 48)) (g := 602) (M := me_w (lw M L) J) (v := .int (J (p 48) 2)) rfl (congrArg Value.int (rfl)) k
      have k := ly_revb 2 (c' := (if (Int32.ofInt 99) < (J (p 48) 2) then 163 else 132, [(0, .ref (p 16)), (1, .int v1), (2, .int v2), (3, .int v3), (4, .int v4), (5, .int v5), (6, .int v6), (7, .int v7), (8, .int v8), (9, .int v9), (10, .int v10)], [], me_w (lw M L) J)) rfl k
      by_cases h129 : (Int32.ofInt 99) < (J (p 48) 2)
      · rw [if_pos h129] at k
        have k := nt_rn_w (a := [(0, .ref (p 16)), (1, .int v1), (2, .int v2), (3, .int v3), (4, .int v4), (5, .int v5), (6, .int v6), (7, .int v7), (8, .int v8), (9, .int v9), (10, .int v10)]) (b := [(0, .ref (p 16)), (1, .int v1), (2, .int v2), (3, .int v3), (4, .int v4), (5, .int v5), (6, .int v6), (7, .int v7), (8, .int v8), (9, .int v9), (10, .int v10)]) ⟨rfl, rfl, rfl, rfl, rfl, rfl, rfl, rfl, rfl, rfl, rfl, trivial⟩ rfl k
        rw [x125_114, if_neg h117, if_pos h129]
        exact ⟨_, k⟩
      · rw [if_neg h129] at k
        have k := ly_revb 1 (c' := (133, [(0, .ref (p 16)), (1, .int v1), (2, .int v2), (3, .int v3), (4, .int v4), (5, .int v5), (6, .int v6), (7, .int v7), (8, .int v8), (9, .int v9), (10, .int v10)], [.ref (p 16)], me_w (lw M L) J)) rfl k
        have k := lz_get (a := (p 16)) (g := 1005) (M := me_w (lw M L) J) (v := .ref (p 24)) rfl (nt_gfR rfl (hp.1 (16, 5, 24) (by decide))) k
        have k := ly_revb 1 (c' := (137, [(0, .ref (p 16)), (1, .int v1), (2, .int v2), (3, .int v3), (4, .int v4), (5, .int v5), (6, .int v6), (7, .int v7), (8, .int v8), (9, .int v9), (10, .int v10)], [.ref (p 16), .ref (p 24)], me_w (lw M L) J)) rfl k
        have k := lz_get (a := (p 16)) (g := 1008) (M := me_w (lw M L) J) (v := .ref (p 48)) rfl (nt_gfR rfl (hp.1 (16, 8, 48) (by decide))) k
        have k := ly_revb 2 (c' := (142, [(0, .ref (p 16)), (1, .int v1), (2, .int v2), (3, .int v3), (4, .int v4), (5, .int v5), (6, .int v6), (7, .int v7), (8, .int v8), (9, .int v9), (10, .int v10)], [.int v1, .ref (p 16), .ref (p 48), .ref (p 24)], me_w (lw M L) J)) rfl k
        obtain ⟨d1, o1, ed, kc, k⟩ := lz_c (g := 112) (q := 1) (vs := [.ref (p 16), .int v1]) (rest := [.ref (p 48), .ref (p 24)]) rfl rfl (by decide) (Or.inr (Or.inl ⟨_, rfl, rfl⟩)) rfl k
        have e1 := xr112 (M := lw M L) (xs_lp hp) h0 hc.1 hr kc
        subst e1
        have k : nt_rn X _ 125 (145, [(0, .ref (p 16)), (1, .int v1), (2, .int v2), (3, .int v3), (4, .int v4), (5, .int v5), (6, .int v6), (7, .int v7), (8, .int v8), (9, .int v9), (10, .int v10)], [.ref ru, .ref (p 48), .ref (p 24)], me_w (lw M L) J) _ := k
        obtain ⟨d1, o1, ed, kc, k⟩ := lz_c (g := 1) (q := 1) (vs := [.ref (p 24), .ref (p 48), .ref ru]) (rest := []) rfl rfl (by decide) (Or.inr (Or.inl ⟨_, rfl, rfl⟩)) rfl k
        have e1 := xt1 hp hm (xs_x48 hp) hs kc
        subst e1
        have k : nt_rn X _ 125 (148, [(0, .ref (p 16)), (1, .int v1), (2, .int v2), (3, .int v3), (4, .int v4), (5, .int v5), (6, .int v6), (7, .int v7), (8, .int v8), (9, .int v9), (10, .int v10)], [], me_w (lw M ((x1 p (fun i => p (48 + i)) sp ln J L).2)) ((x1 p (fun i => p (48 + i)) sp ln J L).1)) _ := k
        have k := ly_revb 1 (c' := (149, [(0, .ref (p 16)), (1, .int v1), (2, .int v2), (3, .int v3), (4, .int v4), (5, .int v5), (6, .int v6), (7, .int v7), (8, .int v8), (9, .int v9), (10, .int v10)], [.ref (p 16)], me_w (lw M ((x1 p (fun i => p (48 + i)) sp ln J L).2)) ((x1 p (fun i => p (48 + i)) sp ln J L).1))) rfl k
        have k := lz_get (a := (p 16)) (g := 1008) (M := me_w (lw M ((x1 p (fun i => p (48 + i)) sp ln J L).2)) ((x1 p (fun i => p (48 + i)) sp ln J L).1)) (v := .ref (p 48)) rfl (nt_gfR rfl (hp.1 (16, 8, 48) (by decide))) k
        have k := ly_revb 1 (c' := (154, [(0, .ref (p 16)), (1, .int v1), (2, .int v2), (3, .int v3), (4, .int v4), (5, .int v5), (6, .int v6), (7, .int v7), (8, .int v8), (9, .int v9), (10, .int v10)], [.int v4, .ref (p 48)], me_w (lw M ((x1 p (fun i => p (48 + i)) sp ln J L).2)) ((x1 p (fun i => p (48 + i)) sp ln J L).1))) rfl k
        obtain ⟨d1, o1, ed, kc, k⟩ := lz_c (g := 81) (q := 1) (vs := [.ref (p 48), .int v4]) (rest := []) rfl rfl (by decide) (Or.inr (Or.inl ⟨_, rfl, rfl⟩)) rfl k
        have e1 := xt81 (xs_lq hm) kc
        subst e1
        have k : nt_rn X _ 125 (157, [(0, .ref (p 16)), (1, .int v1), (2, .int v2), (3, .int v3), (4, .int v4), (5, .int v5), (6, .int v6), (7, .int v7), (8, .int v8), (9, .int v9), (10, .int v10)], [], me_w (lw M ((x1 p (fun i => p (48 + i)) sp ln J L).2)) (x81 (fun i => p (48 + i)) v4 ((x1 p (fun i => p (48 + i)) sp ln J L).1))) _ := k
        have k := ly_revb 2 (c' := (114, [(10, .int (v10 + (Int32.ofInt 1))), (0, .ref (p 16)), (1, .int v1), (2, .int v2), (3, .int v3), (4, .int v4), (5, .int v5), (6, .int v6), (7, .int v7), (8, .int v8), (9, .int v9)], [], me_w (lw M ((x1 p (fun i => p (48 + i)) sp ln J L).2)) (x81 (fun i => p (48 + i)) v4 ((x1 p (fun i => p (48 + i)) sp ln J L).1)))) rfl k
        have k := nt_rn_w (a := [(10, .int (v10 + (Int32.ofInt 1))), (0, .ref (p 16)), (1, .int v1), (2, .int v2), (3, .int v3), (4, .int v4), (5, .int v5), (6, .int v6), (7, .int v7), (8, .int v8), (9, .int v9)]) (b := [(0, .ref (p 16)), (1, .int v1), (2, .int v2), (3, .int v3), (4, .int v4), (5, .int v5), (6, .int v6), (7, .int v7), (8, .int v8), (9, .int v9), (10, .int (v10 + (Int32.ofInt 1)))]) ⟨rfl, rfl, rfl, rfl, rfl, rfl, rfl, rfl, rfl, rfl, rfl, trivial⟩ rfl k
        have k := ih (v10 + (Int32.ofInt 1)) (x81 (fun i => p (48 + i)) v4 ((x1 p (fun i => p (48 + i)) sp ln J L).1)) ((x1 p (fun i => p (48 + i)) sp ln J L).2) (⟨by rw [show (x81 (fun i => p (48 + i)) v4 ((x1 p (fun i => p (48 + i)) sp ln J L).1)) (p 16) 4 = J (p 16) 4 from (congrFun (x81_frJ  (hp.2.1 16 48 (by omega) (by omega) (by decide)) (hp.2.1 16 61 (by omega) (by omega) (by decide))) 4).trans (congrFun (x1_frJ  (hp.2.1 16 25 (by omega) (by omega) (by decide)) (hp.2.1 16 48 (by omega) (by omega) (by decide)) (hp.2.1 16 58 (by omega) (by omega) (by decide)) (hp.2.1 16 59 (by omega) (by omega) (by decide)) (hp.2.1 16 60 (by omega) (by omega) (by decide)) (hp.2.1 16 61 (by omega) (by omega) (by decide)) (hp.2.1 16 62 (by omega) (by omega) (by decide)) (hp.2.1 16 63 (by omega) (by omega) (by decide)) (hp.2.1 16 64 (by omega) (by omega) (by decide))) 4)]; exact hc.1, lx_dec h117 hc.2⟩) k
        rw [x125_114, if_neg h117, if_neg h129]
        exact k
theorem x125_114_rule {p : Nat → Nat} {sp : Nat} {ln : Nat} {v1 : Int32} {v2 : Int32} {v3 : Int32} {v4 : Int32} {v5 : Int32} {v6 : Int32} {v7 : Int32} {v9 : Int32} {I : Nat → Int32 → (Nat → Nat → Int32) → (Nat → Nat → Int64) → Prop} {Q : (Nat → Nat → Int32) × (Nat → Nat → Int64) → Prop} (h0 : ∀ (v10 : Int32) (J : Nat → Nat → Int32) (L : Nat → Nat → Int64), I 0 v10 J L → Q (J, L)) (h1 : ∀ (c : Nat) (v10 : Int32) (J : Nat → Nat → Int32) (L : Nat → Nat → Int64), I (c + 1) v10 J L →
    if v3 ≤ v10 then (Q (J, L))
    else if (Int32.ofInt 99) < (J (p 48) 2) then (Q (J, L))
      else (I c (v10 + (Int32.ofInt 1)) (x81 (fun i => p (48 + i)) v4 ((x1 p (fun i => p (48 + i)) sp ln J L).1)) ((x1 p (fun i => p (48 + i)) sp ln J L).2))) : ∀ (c : Nat) (v10 : Int32) (J : Nat → Nat → Int32) (L : Nat → Nat → Int64), I c v10 J L → Q (x125_114 p sp ln v1 v2 v3 v4 v5 v6 v7 v9 c v10 J L) := by
  intro c
  induction c with
  | zero =>
    intro v10 J L hi
    rw [x125_114]
    exact h0 v10 J L hi
  | succ c ih =>
    intro v10 J L hi
    have hi := h1 c v10 J L hi
    rw [x125_114]
    by_cases h : v3 ≤ v10
    · rw [if_pos h] at hi ⊢
      exact hi
    · rw [if_neg h] at hi ⊢
      by_cases h : (Int32.ofInt 99) < (J (p 48) 2)
      · rw [if_pos h] at hi ⊢
        exact hi
      · rw [if_neg h] at hi ⊢
        exact ih _ _ _ hi
theorem x125_114_frJ {p : Nat → Nat} {sp : Nat} {ln : Nat} {v1 : Int32} {v2 : Int32} {v3 : Int32} {v4 : Int32} {v5 : Int32} {v6 : Int32} {v7 : Int32} {v9 : Int32} {b : Nat} : ∀ (c : Nat) (v10 : Int32) (J : Nat → Nat → Int32) (L : Nat → Nat → Int64), b ≠ p 25 → b ≠ p 48 → b ≠ p 58 → b ≠ p 59 → b ≠ p 60 → b ≠ p 61 → b ≠ p 62 → b ≠ p 63 → b ≠ p 64 → (x125_114 p sp ln v1 v2 v3 v4 v5 v6 v7 v9 c v10 J L).1 b = J b := by
  intro c
  induction c with
  | zero =>
    intro v10 J L n0 n1 n2 n3 n4 n5 n6 n7 n8
    rw [x125_114]
    all_goals first | (dsimp only; exact (show J b = J b from rfl)) | exact (show J b = J b from rfl)
  | succ c ih =>
    intro v10 J L n0 n1 n2 n3 n4 n5 n6 n7 n8
    rw [x125_114]
    by_cases h : v3 ≤ v10
    · rw [if_pos h]
      all_goals first | (dsimp only; exact (show J b = J b from rfl)) | exact (show J b = J b from rfl)
    · rw [if_neg h]
      by_cases h : (Int32.ofInt 99) < (J (p 48) 2)
      · rw [if_pos h]
        all_goals first | (dsimp only; exact (show J b = J b from rfl)) | exact (show J b = J b from rfl)
      · rw [if_neg h]
        exact (ih _ _ _ n0 n1 n2 n3 n4 n5 n6 n7 n8).trans ((x81_frJ  n1 n5).trans (x1_frJ  n0 n1 n2 n3 n4 n5 n6 n7 n8))
theorem x125_114_frL {p : Nat → Nat} {sp : Nat} {ln : Nat} {v1 : Int32} {v2 : Int32} {v3 : Int32} {v4 : Int32} {v5 : Int32} {v6 : Int32} {v7 : Int32} {v9 : Int32} {b : Nat} : ∀ (c : Nat) (v10 : Int32) (J : Nat → Nat → Int32) (L : Nat → Nat → Int64), b ≠ p 25 → b ≠ p 26 → b ≠ p 27 → (x125_114 p sp ln v1 v2 v3 v4 v5 v6 v7 v9 c v10 J L).2 b = L b := by
  intro c
  induction c with
  | zero =>
    intro v10 J L n0 n1 n2
    rw [x125_114]
    all_goals first | (dsimp only; exact (show L b = L b from rfl)) | exact (show L b = L b from rfl)
  | succ c ih =>
    intro v10 J L n0 n1 n2
    rw [x125_114]
    by_cases h : v3 ≤ v10
    · rw [if_pos h]
      all_goals first | (dsimp only; exact (show L b = L b from rfl)) | exact (show L b = L b from rfl)
    · rw [if_neg h]
      by_cases h : (Int32.ofInt 99) < (J (p 48) 2)
      · rw [if_pos h]
        all_goals first | (dsimp only; exact (show L b = L b from rfl)) | exact (show L b = L b from rfl)
      · rw [if_neg h]
        exact (ih _ _ _ n0 n1 n2).trans (x1_frL n0 n1 n2)
def x125_85 (p : Nat → Nat) (sp : Nat) (ln : Nat) (v1 : Int32) (v2 : Int32) (v3 : Int32) (v4 : Int32) (v5 : Int32) : Nat → Int32 → Int32 → Int32 → Int32 → (Nat → Nat → Int32) → (Nat → Nat → Int64) → Int32 × (Nat → Nat → Int32) × (Nat → Nat → Int64)
  | 0, v6, v7, v8, v9, J, L => if v5 = 0 then (v6, J, L)
    else (v7, J, L)
  | c + 1, v6, v7, v8, v9, J, L => if v2 ≤ v9 then if v5 = 0 then (v6, J, L)
      else (v7, J, L)
    else (x125_85 p sp ln v1 v2 v3 v4 v5 c (v6 + ((((x125_114 p sp ln v1 v2 v3 v4 v5 v6 v7 v9 v3.toNatClampNeg (Int32.ofInt 0) (nt_u (x80 (fun i => p (48 + i)) (fun i => p (31 + i)) J) (p 48) 6 v8) L).1) (p 48) 5) - (J (p 31) 5))) (v7 + (x236 (x79 (fun i => p (48 + i)) ((x125_114 p sp ln v1 v2 v3 v4 v5 v6 v7 v9 v3.toNatClampNeg (Int32.ofInt 0) (nt_u (x80 (fun i => p (48 + i)) (fun i => p (31 + i)) J) (p 48) 6 v8) L).1)))) (((x125_114 p sp ln v1 v2 v3 v4 v5 v6 v7 v9 v3.toNatClampNeg (Int32.ofInt 0) (nt_u (x80 (fun i => p (48 + i)) (fun i => p (31 + i)) J) (p 48) 6 v8) L).1) (p 48) 6) (v9 + (Int32.ofInt 1)) ((x125_114 p sp ln v1 v2 v3 v4 v5 v6 v7 v9 v3.toNatClampNeg (Int32.ofInt 0) (nt_u (x80 (fun i => p (48 + i)) (fun i => p (31 + i)) J) (p 48) 6 v8) L).1) ((x125_114 p sp ln v1 v2 v3 v4 v5 v6 v7 v9 v3.toNatClampNeg (Int32.ofInt 0) (nt_u (x80 (fun i => p (48 + i)) (fun i => p (31 + i)) J) (p 48) 6 v8) L).2))
theorem xt125_85 {X : nt_X} {d : Nat} {M : nt_M} {o : Option Value × nt_M} {p : Nat → Nat} {sp : Nat} {ln : Nat} {ru : Nat} {v1 : Int32} {v2 : Int32} {v3 : Int32} {v4 : Int32} {v5 : Int32} (hp : xs_P M p) (hn : xs_Q M (fun i => p (31 + i))) (hm : xs_Q M (fun i => p (48 + i))) (hk : xs_N M (fun i => p (48 + i))) (hs : xs_S M p ru sp ln) (h0 : ¬ v1 < 0) (hr : nt_R M (p 23) v1.toNatClampNeg = some ru) : ∀ (c : Nat) (v6 : Int32) (v7 : Int32) (v8 : Int32) (v9 : Int32) (v10 : Int32) (J : Nat → Nat → Int32) (L : Nat → Nat → Int64), (¬ J (p 16) 4 ≤ v1 ∧ v2.toInt - v9.toInt ≤ c) → nt_rn X d 125 (85, [(0, .ref (p 16)), (1, .int v1), (2, .int v2), (3, .int v3), (4, .int v4), (5, .int v5), (6, .int v6), (7, .int v7), (8, .int v8), (9, .int v9), (10, .int v10)], [], me_w (lw M L) J) o → o = (some (.int ((x125_85 p sp ln v1 v2 v3 v4 v5 c v6 v7 v8 v9 J L).1)), me_w (lw M ((x125_85 p sp ln v1 v2 v3 v4 v5 c v6 v7 v8 v9 J L).2.2)) ((x125_85 p sp ln v1 v2 v3 v4 v5 c v6 v7 v8 v9 J L).2.1)) := by
  intro c
  induction c with
  | zero =>
    intro v6 v7 v8 v9 v10 J L hc k
    have k := ly_revb 3 (c' := (if v2 ≤ v9 then 213 else 91, [(0, .ref (p 16)), (1, .int v1), (2, .int v2), (3, .int v3), (4, .int v4), (5, .int v5), (6, .int v6), (7, .int v7), (8, .int v8), (9, .int v9), (10, .int v10)], [], me_w (lw M L) J)) rfl k
    have h88 : v2 ≤ v9 := lx_end hc.2
    rw [if_pos h88] at k
    have k := ly_revb 2 (c' := (if v5 = 0 then 218 else 223, [(0, .ref (p 16)), (1, .int v1), (2, .int v2), (3, .int v3), (4, .int v4), (5, .int v5), (6, .int v6), (7, .int v7), (8, .int v8), (9, .int v9), (10, .int v10)], [], me_w (lw M L) J)) rfl k
    by_cases h215 : v5 = 0
    · rw [if_pos h215] at k
      have k := ly_revb 2 (c' := (225, [(0, .ref (p 16)), (1, .int v1), (2, .int v2), (3, .int v3), (4, .int v4), (5, .int v5), (6, .int v6), (7, .int v7), (8, .int v8), (9, .int v9), (10, .int v10)], [.int v6], me_w (lw M L) J)) rfl k
      have k := lz_ri rfl (by decide) k
      rw [k, x125_85, if_pos h215]
    · rw [if_neg h215] at k
      have k := ly_revb 1 (c' := (225, [(0, .ref (p 16)), (1, .int v1), (2, .int v2), (3, .int v3), (4, .int v4), (5, .int v5), (6, .int v6), (7, .int v7), (8, .int v8), (9, .int v9), (10, .int v10)], [.int v7], me_w (lw M L) J)) rfl k
      have k := lz_ri rfl (by decide) k
      rw [k, x125_85, if_neg h215]
  | succ c ih =>
    intro v6 v7 v8 v9 v10 J L hc k
    have k := ly_revb 3 (c' := (if v2 ≤ v9 then 213 else 91, [(0, .ref (p 16)), (1, .int v1), (2, .int v2), (3, .int v3), (4, .int v4), (5, .int v5), (6, .int v6), (7, .int v7), (8, .int v8), (9, .int v9), (10, .int v10)], [], me_w (lw M L) J)) rfl k
    by_cases h88 : v2 ≤ v9
    · rw [if_pos h88] at k
      have k := ly_revb 2 (c' := (if v5 = 0 then 218 else 223, [(0, .ref (p 16)), (1, .int v1), (2, .int v2), (3, .int v3), (4, .int v4), (5, .int v5), (6, .int v6), (7, .int v7), (8, .int v8), (9, .int v9), (10, .int v10)], [], me_w (lw M L) J)) rfl k
      by_cases h215 : v5 = 0
      · rw [if_pos h215] at k
        have k := ly_revb 2 (c' := (225, [(0, .ref (p 16)), (1, .int v1), (2, .int v2), (3, .int v3), (4, .int v4), (5, .int v5), (6, .int v6), (7, .int v7), (8, .int v8), (9, .int v9), (10, .int v10)], [.int v6], me_w (lw M L) J)) rfl k
        have k := lz_ri rfl (by decide) k
        rw [k, x125_85, if_pos h88, if_pos h215]
      · rw [if_neg h215] at k
        have k := ly_revb 1 (c' := (225, [(0, .ref (p 16)), (1, .int v1), (2, .int v2), (3, .int v3), (4, .int v4), (5, .int v5), (6, .int v6), (7, .int v7), (8, .int v8), (9, .int v9), (10, .int v10)], [.int v7], me_w (lw M L) J)) rfl k
        have k := lz_ri rfl (by decide) k
        rw [k, x125_85, if_pos h88, if_neg h215]
    · rw [if_neg h88] at k
      have k := ly_revb 1 (c' := (92, [(0, .ref (p 16)), (1, .int v1), (2, .int v2), (3, .int v3), (4, .int v4), (5, .int v5), (6, .int v6), (7, .int v7), (8, .int v8), (9, .int v9), (10, .int v10)], [.ref (p 16)], me_w (lw M L) J)) rfl k
      have k := lz_get (a := (p 16)) (g := 1008) (M := me_w (lw M L) J) (v := .ref (p 48)) rfl (nt_gfR rfl (hp.1 (16, 8, 48) (by decide))) k
      have k := ly_revb 1 (c' := (96, [(0, .ref (p 16)), (1, .int v1), (2, .int v2), (3, .int v3), (4, .int v4), (5, .int v5), (6, .int v6), (7, .int v7), (8, .int v8), (9, .int v9), (10, .int v10)], [.ref (p 16), .ref (p 48)], me_w (lw M L) J)) rfl k
      have k := lz_get (a := (p 16)) (g := 1007) (M := me_w (lw M L) J) (v := .ref (p 31)) rfl (nt_gfR rfl (hp.1 (16, 7, 31) (by decide))) k
      obtain ⟨d1, o1, ed, kc, k⟩ := lz_c (g := 80) (q := 1) (vs := [.ref (p 48), .ref (p 31)]) (rest := []) rfl rfl (by decide) (Or.inr (Or.inl ⟨_, rfl, rfl⟩)) rfl k
      have e1 := xt80 (xs_lq hm) (xs_lq hn) (xs_d48 hp) (xs_ln hk) kc
      subst e1
      have k : nt_rn X _ 125 (102, [(0, .ref (p 16)), (1, .int v1), (2, .int v2), (3, .int v3), (4, .int v4), (5, .int v5), (6, .int v6), (7, .int v7), (8, .int v8), (9, .int v9), (10, .int v10)], [], me_w (lw M L) (x80 (fun i => p (48 + i)) (fun i => p (31 + i)) J)) _ := k
      have k := ly_revb 1 (c' := (103, [(0, .ref (p 16)), (1, .int v1), (2, .int v2), (3, .int v3), (4, .int v4), (5, .int v5), (6, .int v6), (7, .int v7), (8, .int v8), (9, .int v9), (10, .int v10)], [.ref (p 16)], me_w (lw M L) (x80 (fun i => p (48 + i)) (fun i => p (31 + i)) J))) rfl k
      have k := lz_get (a := (p 16)) (g := 1008) (M := me_w (lw M L) (x80 (fun i => p (48 + i)) (fun i => p (31 + i)) J)) (v := .ref (p 48)) rfl (nt_gfR rfl (hp.1 (16, 8, 48) (by decide))) k
      have k := ly_revb 1 (c' := (108, [(0, .ref (p 16)), (1, .int v1), (2, .int v2), (3, .int v3), (4, .int v4), (5, .int v5), (6, .int v6), (7, .int v7), (8, .int v8), (9, .int v9), (10, .int v10)], [.int v8, .ref (p 48)], me_w (lw M L) (x80 (fun i => p (48 + i)) (fun i => p (31 + i)) J))) rfl k
      have k := me_put rfl (by decide) k
      have k : nt_rn X _ 125 (111, [(0, .ref (p 16)), (1, .int v1), (2, .int v2), (3, .int v3), (4, .int v4), (5, .int v5), (6, .int v6), (7, .int v7), (8, .int v8), (9, .int v9), (10, .int v10)], [], me_w (lw M L) (nt_u (x80 (fun i => p (48 + i)) (fun i => p (31 + i)) J) (p 48) 6 v8)) _ := k
      have k := ly_revb 2 (c' := (114, [(10, .int (Int32.ofInt 0)), (0, .ref (p 16)), (1, .int v1), (2, .int v2), (3, .int v3), (4, .int v4), (5, .int v5), (6, .int v6), (7, .int v7), (8, .int v8), (9, .int v9)], [], me_w (lw M L) (nt_u (x80 (fun i => p (48 + i)) (fun i => p (31 + i)) J) (p 48) 6 v8))) rfl k
      have k := nt_rn_w (a := [(10, .int (Int32.ofInt 0)), (0, .ref (p 16)), (1, .int v1), (2, .int v2), (3, .int v3), (4, .int v4), (5, .int v5), (6, .int v6), (7, .int v7), (8, .int v8), (9, .int v9)]) (b := [(0, .ref (p 16)), (1, .int v1), (2, .int v2), (3, .int v3), (4, .int v4), (5, .int v5), (6, .int v6), (7, .int v7), (8, .int v8), (9, .int v9), (10, .int (Int32.ofInt 0))]) ⟨rfl, rfl, rfl, rfl, rfl, rfl, rfl, rfl, rfl, rfl, rfl, trivial⟩ rfl k
      have k := xt125_114 hp hn hm hk hs h0 hr  v3.toNatClampNeg (Int32.ofInt 0) (nt_u (x80 (fun i => p (48 + i)) (fun i => p (31 + i)) J) (p 48) 6 v8) L (⟨by rw [show (nt_u (x80 (fun i => p (48 + i)) (fun i => p (31 + i)) J) (p 48) 6 v8) (p 16) 4 = J (p 16) 4 from (mu_j (hp.2.1 16 48 (by omega) (by omega) (by decide))).trans (congrFun (x80_frJ  (hp.2.1 16 48 (by omega) (by omega) (by decide)) (hp.2.1 16 49 (by omega) (by omega) (by decide)) (hp.2.1 16 50 (by omega) (by omega) (by decide)) (hp.2.1 16 51 (by omega) (by omega) (by decide)) (hp.2.1 16 52 (by omega) (by omega) (by decide)) (hp.2.1 16 53 (by omega) (by omega) (by decide)) (hp.2.1 16 54 (by omega) (by omega) (by decide)) (hp.2.1 16 55 (by omega) (by omega) (by decide)) (hp.2.1 16 56 (by omega) (by omega) (by decide)) (hp.2.1 16 57 (by omega) (by omega) (by decide)) (hp.2.1 16 58 (by omega) (by omega) (by decide)) (hp.2.1 16 59 (by omega) (by omega) (by decide)) (hp.2.1 16 60 (by omega) (by omega) (by decide)) (hp.2.1 16 61 (by omega) (by omega) (by decide)) (hp.2.1 16 62 (by omega) (by omega) (by decide)) (hp.2.1 16 63 (by omega) (by omega) (by decide)) (hp.2.1 16 64 (by omega) (by omega) (by decide))) 4)]; exact hc.1, lx_beg (by decide)⟩) k
      obtain ⟨w10, k⟩ := k
      have k : nt_rn X _ 125 (163, [(0, .ref (p 16)), (1, .int v1), (2, .int v2), (3, .int v3), (4, .int v4), (5, .int v5), (6, .int v6), (7, .int v7), (8, .int v8), (9, .int v9), (10, .int w10)], [], me_w (lw M ((x125_114 p sp ln v1 v2 v3 v4 v5 v6 v7 v9 v3.toNatClampNeg (Int32.ofInt 0) (nt_u (x80 (fun i => p (48 + i)) (fun i => p (31 + i)) J) (p 48) 6 v8) L).2)) ((x125_114 p sp ln v1 v2 v3 v4 v5 v6 v7 v9 v3.toNatClampNeg (Int32.ofInt 0) (nt_u (x80 (fun i => p (48 + i)) (fun i => p (31 + i)) J) (p 48) 6 v8) L).1)) _ := k
      have k := ly_revb 1 (c' := (164, [(0, .ref (p 16)), (1, .int v1), (2, .int v2), (3, .int v3), (4, .int v4), (5, .int v5), (6, .int v6), (7, .int v7), (8, .int v8), (9, .int v9), (10, .int w10)], [.ref (p 16)], me_w (lw M ((x125_114 p sp ln v1 v2 v3 v4 v5 v6 v7 v9 v3.toNatClampNeg (Int32.ofInt 0) (nt_u (x80 (fun i => p (48 + i)) (fun i => p (31 + i)) J) (p 48) 6 v8) L).2)) ((x125_114 p sp ln v1 v2 v3 v4 v5 v6 v7 v9 v3.toNatClampNeg (Int32.ofInt 0) (nt_u (x80 (fun i => p (48 + i)) (fun i => p (31 + i)) J) (p 48) 6 v8) L).1))) rfl k
      have k := lz_get (a := (p 16)) (g := 1008) (M := me_w (lw M ((x125_114 p sp ln v1 v2 v3 v4 v5 v6 v7 v9 v3.toNatClampNeg (Int32.ofInt 0) (nt_u (x80 (fun i => p (48 + i)) (fun i => p (31 + i)) J) (p 48) 6 v8) L).2)) ((x125_114 p sp ln v1 v2 v3 v4 v5 v6 v7 v9 v3.toNatClampNeg (Int32.ofInt 0) (nt_u (x80 (fun i => p (48 + i)) (fun i => p (31 + i)) J) (p 48) 6 v8) L).1)) (v := .ref (p 48)) rfl (nt_gfR rfl (hp.1 (16, 8, 48) (by decide))) k
      have k := lz_get (a := (p 48)) (g := 606) (M := me_w (lw M ((x125_114 p sp ln v1 v2 v3 v4 v5 v6 v7 v9 v3.toNatClampNeg (Int32.ofInt 0) (nt_u (x80 (fun i => p (48 + i)) (fun i => p (31 + i)) J) (p 48) 6 v8) L).2)) ((x125_114 p sp ln v1 v2 v3 v4 v5 v6 v7 v9 v3.toNatClampNeg (Int32.ofInt 0) (nt_u (x80 (fun i => p (48 + i)) (fun i => p (31 + i)) J) (p 48) 6 v8) L).1)) (v := .int (((x125_114 p sp ln v1 v2 v3 v4 v5 v6 v7 v9 v3.toNatClampNeg (Int32.ofInt 0) (nt_u (x80 (fun i => p (48 + i)) (fun i => p (31 + i)) J) (p 48) 6 v8) L).1) (p 48) 6)) rfl (congrArg Value.int (rfl)) k
      have k := ly_revb 3 (c' := (175, [(8, .int (((x125_114 p sp ln v1 v2 v3 v4 v5 v6 v7 v9 v3.toNatClampNeg (Int32.ofInt 0) (nt_u (x80 (fun i => p (48 + i)) (fun i => p (31 + i)) J) (p 48) 6 v8) L).1) (p 48) 6)), (0, .ref (p 16)), (1, .int v1), (2, .int v2), (3, .int v3), (4, .int v4), (5, .int v5), (6, .int v6), (7, .int v7), (9, .int v9), (10, .int w10)], [.ref (p 16), .int v6], me_w (lw M ((x125_114 p sp ln v1 v2 v3 v4 v5 v6 v7 v9 v3.toNatClampNeg (Int32.ofInt 0) (nt_u (x80 (fun i => p (48 + i)) (fun i => p (31 + i)) J) (p 48) 6 v8) L).2)) ((x125_114 p sp ln v1 v2 v3 v4 v5 v6 v7 v9 v3.toNatClampNeg (Int32.ofInt 0) (nt_u (x80 (fun i => p (48 + i)) (fun i => p (31 + i)) J) (p 48) 6 v8) L).1))) rfl k
      have k := lz_get (a := (p 16)) (g := 1008) (M := me_w (lw M ((x125_114 p sp ln v1 v2 v3 v4 v5 v6 v7 v9 v3.toNatClampNeg (Int32.ofInt 0) (nt_u (x80 (fun i => p (48 + i)) (fun i => p (31 + i)) J) (p 48) 6 v8) L).2)) ((x125_114 p sp ln v1 v2 v3 v4 v5 v6 v7 v9 v3.toNatClampNeg (Int32.ofInt 0) (nt_u (x80 (fun i => p (48 + i)) (fun i => p (31 + i)) J) (p 48) 6 v8) L).1)) (v := .ref (p 48)) rfl (nt_gfR rfl (hp.1 (16, 8, 48) (by decide))) k
      have k := lz_get (a := (p 48)) (g := 605) (M := me_w (lw M ((x125_114 p sp ln v1 v2 v3 v4 v5 v6 v7 v9 v3.toNatClampNeg (Int32.ofInt 0) (nt_u (x80 (fun i => p (48 + i)) (fun i => p (31 + i)) J) (p 48) 6 v8) L).2)) ((x125_114 p sp ln v1 v2 v3 v4 v5 v6 v7 v9 v3.toNatClampNeg (Int32.ofInt 0) (nt_u (x80 (fun i => p (48 + i)) (fun i => p (31 + i)) J) (p 48) 6 v8) L).1)) (v := .int (((x125_114 p sp ln v1 v2 v3 v4 v5 v6 v7 v9 v3.toNatClampNeg (Int32.ofInt 0) (nt_u (x80 (fun i => p (48 + i)) (fun i => p (31 + i)) J) (p 48) 6 v8) L).1) (p 48) 5)) rfl (congrArg Value.int (rfl)) k
      have k := ly_revb 1 (c' := (182, [(8, .int (((x125_114 p sp ln v1 v2 v3 v4 v5 v6 v7 v9 v3.toNatClampNeg (Int32.ofInt 0) (nt_u (x80 (fun i => p (48 + i)) (fun i => p (31 + i)) J) (p 48) 6 v8) L).1) (p 48) 6)), (0, .ref (p 16)), (1, .int v1), (2, .int v2), (3, .int v3), (4, .int v4), (5, .int v5), (6, .int v6), (7, .int v7), (9, .int v9), (10, .int w10)], [.ref (p 16), .int (((x125_114 p sp ln v1 v2 v3 v4 v5 v6 v7 v9 v3.toNatClampNeg (Int32.ofInt 0) (nt_u (x80 (fun i => p (48 + i)) (fun i => p (31 + i)) J) (p 48) 6 v8) L).1) (p 48) 5), .int v6], me_w (lw M ((x125_114 p sp ln v1 v2 v3 v4 v5 v6 v7 v9 v3.toNatClampNeg (Int32.ofInt 0) (nt_u (x80 (fun i => p (48 + i)) (fun i => p (31 + i)) J) (p 48) 6 v8) L).2)) ((x125_114 p sp ln v1 v2 v3 v4 v5 v6 v7 v9 v3.toNatClampNeg (Int32.ofInt 0) (nt_u (x80 (fun i => p (48 + i)) (fun i => p (31 + i)) J) (p 48) 6 v8) L).1))) rfl k
      have k := lz_get (a := (p 16)) (g := 1007) (M := me_w (lw M ((x125_114 p sp ln v1 v2 v3 v4 v5 v6 v7 v9 v3.toNatClampNeg (Int32.ofInt 0) (nt_u (x80 (fun i => p (48 + i)) (fun i => p (31 + i)) J) (p 48) 6 v8) L).2)) ((x125_114 p sp ln v1 v2 v3 v4 v5 v6 v7 v9 v3.toNatClampNeg (Int32.ofInt 0) (nt_u (x80 (fun i => p (48 + i)) (fun i => p (31 + i)) J) (p 48) 6 v8) L).1)) (v := .ref (p 31)) rfl (nt_gfR rfl (hp.1 (16, 7, 31) (by decide))) k
      have k := lz_get (a := (p 31)) (g := 605) (M := me_w (lw M ((x125_114 p sp ln v1 v2 v3 v4 v5 v6 v7 v9 v3.toNatClampNeg (Int32.ofInt 0) (nt_u (x80 (fun i => p (48 + i)) (fun i => p (31 + i)) J) (p 48) 6 v8) L).2)) ((x125_114 p sp ln v1 v2 v3 v4 v5 v6 v7 v9 v3.toNatClampNeg (Int32.ofInt 0) (nt_u (x80 (fun i => p (48 + i)) (fun i => p (31 + i)) J) (p 48) 6 v8) L).1)) (v := .int (J (p 31) 5)) rfl (congrArg Value.int ((congrFun (x125_114_frJ _ _ _ _ (hp.2.1 31 25 (by omega) (by omega) (by decide)) (hp.2.1 31 48 (by omega) (by omega) (by decide)) (hp.2.1 31 58 (by omega) (by omega) (by decide)) (hp.2.1 31 59 (by omega) (by omega) (by decide)) (hp.2.1 31 60 (by omega) (by omega) (by decide)) (hp.2.1 31 61 (by omega) (by omega) (by decide)) (hp.2.1 31 62 (by omega) (by omega) (by decide)) (hp.2.1 31 63 (by omega) (by omega) (by decide)) (hp.2.1 31 64 (by omega) (by omega) (by decide))) 5).trans ((mu_j (hp.2.1 31 48 (by omega) (by omega) (by decide))).trans (congrFun (x80_frJ  (hp.2.1 31 48 (by omega) (by omega) (by decide)) (hp.2.1 31 49 (by omega) (by omega) (by decide)) (hp.2.1 31 50 (by omega) (by omega) (by decide)) (hp.2.1 31 51 (by omega) (by omega) (by decide)) (hp.2.1 31 52 (by omega) (by omega) (by decide)) (hp.2.1 31 53 (by omega) (by omega) (by decide)) (hp.2.1 31 54 (by omega) (by omega) (by decide)) (hp.2.1 31 55 (by omega) (by omega) (by decide)) (hp.2.1 31 56 (by omega) (by omega) (by decide)) (hp.2.1 31 57 (by omega) (by omega) (by decide)) (hp.2.1 31 58 (by omega) (by omega) (by decide)) (hp.2.1 31 59 (by omega) (by omega) (by decide)) (hp.2.1 31 60 (by omega) (by omega) (by decide)) (hp.2.1 31 61 (by omega) (by omega) (by decide)) (hp.2.1 31 62 (by omega) (by omega) (by decide)) (hp.2.1 31 63 (by omega) (by omega) (by decide)) (hp.2.1 31 64 (by omega) (by omega) (by decide))) 5)))) k
      have k := ly_revb 5 (c' := (195, [(6, .int (v6 + ((((x125_114 p sp ln v1 v2 v3 v4 v5 v6 v7 v9 v3.toNatClampNeg (Int32.ofInt 0) (nt_u (x80 (fun i => p (48 + i)) (fun i => p (31 + i)) J) (p 48) 6 v8) L).1) (p 48) 5) - (J (p 31) 5)))), (8, .int (((x125_114 p sp ln v1 v2 v3 v4 v5 v6 v7 v9 v3.toNatClampNeg (Int32.ofInt 0) (nt_u (x80 (fun i => p (48 + i)) (fun i => p (31 + i)) J) (p 48) 6 v8) L).1) (p 48) 6)), (0, .ref (p 16)), (1, .int v1), (2, .int v2), (3, .int v3), (4, .int v4), (5, .int v5), (7, .int v7), (9, .int v9), (10, .int w10)], [.ref (p 16), .int v7], me_w (lw M ((x125_114 p sp ln v1 v2 v3 v4 v5 v6 v7 v9 v3.toNatClampNeg (Int32.ofInt 0) (nt_u (x80 (fun i => p (48 + i)) (fun i => p (31 + i)) J) (p 48) 6 v8) L).2)) ((x125_114 p sp ln v1 v2 v3 v4 v5 v6 v7 v9 v3.toNatClampNeg (Int32.ofInt 0) (nt_u (x80 (fun i => p (48 + i)) (fun i => p (31 + i)) J) (p 48) 6 v8) L).1))) rfl k
      have k := lz_get (a := (p 16)) (g := 1008) (M := me_w (lw M ((x125_114 p sp ln v1 v2 v3 v4 v5 v6 v7 v9 v3.toNatClampNeg (Int32.ofInt 0) (nt_u (x80 (fun i => p (48 + i)) (fun i => p (31 + i)) J) (p 48) 6 v8) L).2)) ((x125_114 p sp ln v1 v2 v3 v4 v5 v6 v7 v9 v3.toNatClampNeg (Int32.ofInt 0) (nt_u (x80 (fun i => p (48 + i)) (fun i => p (31 + i)) J) (p 48) 6 v8) L).1)) (v := .ref (p 48)) rfl (nt_gfR rfl (hp.1 (16, 8, 48) (by decide))) k
      obtain ⟨d1, o1, ed, kc, k⟩ := lz_c (g := 79) (q := 1) (vs := [.ref (p 48)]) (rest := [.int v7]) rfl rfl (by decide) (Or.inr (Or.inl ⟨_, rfl, rfl⟩)) rfl k
      have e1 := xt79 (xs_lq hm) kc
      subst e1
      have k : nt_rn X _ 125 (201, [(6, .int (v6 + ((((x125_114 p sp ln v1 v2 v3 v4 v5 v6 v7 v9 v3.toNatClampNeg (Int32.ofInt 0) (nt_u (x80 (fun i => p (48 + i)) (fun i => p (31 + i)) J) (p 48) 6 v8) L).1) (p 48) 5) - (J (p 31) 5)))), (8, .int (((x125_114 p sp ln v1 v2 v3 v4 v5 v6 v7 v9 v3.toNatClampNeg (Int32.ofInt 0) (nt_u (x80 (fun i => p (48 + i)) (fun i => p (31 + i)) J) (p 48) 6 v8) L).1) (p 48) 6)), (0, .ref (p 16)), (1, .int v1), (2, .int v2), (3, .int v3), (4, .int v4), (5, .int v5), (7, .int v7), (9, .int v9), (10, .int w10)], [.int (x79 (fun i => p (48 + i)) ((x125_114 p sp ln v1 v2 v3 v4 v5 v6 v7 v9 v3.toNatClampNeg (Int32.ofInt 0) (nt_u (x80 (fun i => p (48 + i)) (fun i => p (31 + i)) J) (p 48) 6 v8) L).1)), .int v7], me_w (lw M ((x125_114 p sp ln v1 v2 v3 v4 v5 v6 v7 v9 v3.toNatClampNeg (Int32.ofInt 0) (nt_u (x80 (fun i => p (48 + i)) (fun i => p (31 + i)) J) (p 48) 6 v8) L).2)) ((x125_114 p sp ln v1 v2 v3 v4 v5 v6 v7 v9 v3.toNatClampNeg (Int32.ofInt 0) (nt_u (x80 (fun i => p (48 + i)) (fun i => p (31 + i)) J) (p 48) 6 v8) L).1)) _ := k
      obtain ⟨d1, o1, ed, kc, k⟩ := lz_c (g := 236) (q := 0) (vs := [.int (x79 (fun i => p (48 + i)) ((x125_114 p sp ln v1 v2 v3 v4 v5 v6 v7 v9 v3.toNatClampNeg (Int32.ofInt 0) (nt_u (x80 (fun i => p (48 + i)) (fun i => p (31 + i)) J) (p 48) 6 v8) L).1))]) (rest := [.int v7]) rfl rfl (by decide) (Or.inl ⟨_, rfl, rfl⟩) rfl k
      have e1 := xt236  kc
      subst e1
      have k : nt_rn X _ 125 (204, [(6, .int (v6 + ((((x125_114 p sp ln v1 v2 v3 v4 v5 v6 v7 v9 v3.toNatClampNeg (Int32.ofInt 0) (nt_u (x80 (fun i => p (48 + i)) (fun i => p (31 + i)) J) (p 48) 6 v8) L).1) (p 48) 5) - (J (p 31) 5)))), (8, .int (((x125_114 p sp ln v1 v2 v3 v4 v5 v6 v7 v9 v3.toNatClampNeg (Int32.ofInt 0) (nt_u (x80 (fun i => p (48 + i)) (fun i => p (31 + i)) J) (p 48) 6 v8) L).1) (p 48) 6)), (0, .ref (p 16)), (1, .int v1), (2, .int v2), (3, .int v3), (4, .int v4), (5, .int v5), (7, .int v7), (9, .int v9), (10, .int w10)], [.int (x236 (x79 (fun i => p (48 + i)) ((x125_114 p sp ln v1 v2 v3 v4 v5 v6 v7 v9 v3.toNatClampNeg (Int32.ofInt 0) (nt_u (x80 (fun i => p (48 + i)) (fun i => p (31 + i)) J) (p 48) 6 v8) L).1))), .int v7], me_w (lw M ((x125_114 p sp ln v1 v2 v3 v4 v5 v6 v7 v9 v3.toNatClampNeg (Int32.ofInt 0) (nt_u (x80 (fun i => p (48 + i)) (fun i => p (31 + i)) J) (p 48) 6 v8) L).2)) ((x125_114 p sp ln v1 v2 v3 v4 v5 v6 v7 v9 v3.toNatClampNeg (Int32.ofInt 0) (nt_u (x80 (fun i => p (48 + i)) (fun i => p (31 + i)) J) (p 48) 6 v8) L).1)) _ := k
      have k := ly_revb 4 (c' := (85, [(9, .int (v9 + (Int32.ofInt 1))), (7, .int (v7 + (x236 (x79 (fun i => p (48 + i)) ((x125_114 p sp ln v1 v2 v3 v4 v5 v6 v7 v9 v3.toNatClampNeg (Int32.ofInt 0) (nt_u (x80 (fun i => p (48 + i)) (fun i => p (31 + i)) J) (p 48) 6 v8) L).1))))), (6, .int (v6 + ((((x125_114 p sp ln v1 v2 v3 v4 v5 v6 v7 v9 v3.toNatClampNeg (Int32.ofInt 0) (nt_u (x80 (fun i => p (48 + i)) (fun i => p (31 + i)) J) (p 48) 6 v8) L).1) (p 48) 5) - (J (p 31) 5)))), (8, .int (((x125_114 p sp ln v1 v2 v3 v4 v5 v6 v7 v9 v3.toNatClampNeg (Int32.ofInt 0) (nt_u (x80 (fun i => p (48 + i)) (fun i => p (31 + i)) J) (p 48) 6 v8) L).1) (p 48) 6)), (0, .ref (p 16)), (1, .int v1), (2, .int v2), (3, .int v3), (4, .int v4), (5, .int v5), (10, .int w10)], [], me_w (lw M ((x125_114 p sp ln v1 v2 v3 v4 v5 v6 v7 v9 v3.toNatClampNeg (Int32.ofInt 0) (nt_u (x80 (fun i => p (48 + i)) (fun i => p (31 + i)) J) (p 48) 6 v8) L).2)) ((x125_114 p sp ln v1 v2 v3 v4 v5 v6 v7 v9 v3.toNatClampNeg (Int32.ofInt 0) (nt_u (x80 (fun i => p (48 + i)) (fun i => p (31 + i)) J) (p 48) 6 v8) L).1))) rfl k
      have k := nt_rn_w (a := [(9, .int (v9 + (Int32.ofInt 1))), (7, .int (v7 + (x236 (x79 (fun i => p (48 + i)) ((x125_114 p sp ln v1 v2 v3 v4 v5 v6 v7 v9 v3.toNatClampNeg (Int32.ofInt 0) (nt_u (x80 (fun i => p (48 + i)) (fun i => p (31 + i)) J) (p 48) 6 v8) L).1))))), (6, .int (v6 + ((((x125_114 p sp ln v1 v2 v3 v4 v5 v6 v7 v9 v3.toNatClampNeg (Int32.ofInt 0) (nt_u (x80 (fun i => p (48 + i)) (fun i => p (31 + i)) J) (p 48) 6 v8) L).1) (p 48) 5) - (J (p 31) 5)))), (8, .int (((x125_114 p sp ln v1 v2 v3 v4 v5 v6 v7 v9 v3.toNatClampNeg (Int32.ofInt 0) (nt_u (x80 (fun i => p (48 + i)) (fun i => p (31 + i)) J) (p 48) 6 v8) L).1) (p 48) 6)), (0, .ref (p 16)), (1, .int v1), (2, .int v2), (3, .int v3), (4, .int v4), (5, .int v5), (10, .int w10)]) (b := [(0, .ref (p 16)), (1, .int v1), (2, .int v2), (3, .int v3), (4, .int v4), (5, .int v5), (6, .int (v6 + ((((x125_114 p sp ln v1 v2 v3 v4 v5 v6 v7 v9 v3.toNatClampNeg (Int32.ofInt 0) (nt_u (x80 (fun i => p (48 + i)) (fun i => p (31 + i)) J) (p 48) 6 v8) L).1) (p 48) 5) - (J (p 31) 5)))), (7, .int (v7 + (x236 (x79 (fun i => p (48 + i)) ((x125_114 p sp ln v1 v2 v3 v4 v5 v6 v7 v9 v3.toNatClampNeg (Int32.ofInt 0) (nt_u (x80 (fun i => p (48 + i)) (fun i => p (31 + i)) J) (p 48) 6 v8) L).1))))), (8, .int (((x125_114 p sp ln v1 v2 v3 v4 v5 v6 v7 v9 v3.toNatClampNeg (Int32.ofInt 0) (nt_u (x80 (fun i => p (48 + i)) (fun i => p (31 + i)) J) (p 48) 6 v8) L).1) (p 48) 6)), (9, .int (v9 + (Int32.ofInt 1))), (10, .int w10)]) ⟨rfl, rfl, rfl, rfl, rfl, rfl, rfl, rfl, rfl, rfl, rfl, trivial⟩ rfl k
      have k := ih (v6 + ((((x125_114 p sp ln v1 v2 v3 v4 v5 v6 v7 v9 v3.toNatClampNeg (Int32.ofInt 0) (nt_u (x80 (fun i => p (48 + i)) (fun i => p (31 + i)) J) (p 48) 6 v8) L).1) (p 48) 5) - (J (p 31) 5))) (v7 + (x236 (x79 (fun i => p (48 + i)) ((x125_114 p sp ln v1 v2 v3 v4 v5 v6 v7 v9 v3.toNatClampNeg (Int32.ofInt 0) (nt_u (x80 (fun i => p (48 + i)) (fun i => p (31 + i)) J) (p 48) 6 v8) L).1)))) (((x125_114 p sp ln v1 v2 v3 v4 v5 v6 v7 v9 v3.toNatClampNeg (Int32.ofInt 0) (nt_u (x80 (fun i => p (48 + i)) (fun i => p (31 + i)) J) (p 48) 6 v8) L).1) (p 48) 6) (v9 + (Int32.ofInt 1)) w10 ((x125_114 p sp ln v1 v2 v3 v4 v5 v6 v7 v9 v3.toNatClampNeg (Int32.ofInt 0) (nt_u (x80 (fun i => p (48 + i)) (fun i => p (31 + i)) J) (p 48) 6 v8) L).1) ((x125_114 p sp ln v1 v2 v3 v4 v5 v6 v7 v9 v3.toNatClampNeg (Int32.ofInt 0) (nt_u (x80 (fun i => p (48 + i)) (fun i => p (31 + i)) J) (p 48) 6 v8) L).2) (⟨by rw [show ((x125_114 p sp ln v1 v2 v3 v4 v5 v6 v7 v9 v3.toNatClampNeg (Int32.ofInt 0) (nt_u (x80 (fun i => p (48 + i)) (fun i => p (31 + i)) J) (p 48) 6 v8) L).1) (p 16) 4 = J (p 16) 4 from (congrFun (x125_114_frJ _ _ _ _ (hp.2.1 16 25 (by omega) (by omega) (by decide)) (hp.2.1 16 48 (by omega) (by omega) (by decide)) (hp.2.1 16 58 (by omega) (by omega) (by decide)) (hp.2.1 16 59 (by omega) (by omega) (by decide)) (hp.2.1 16 60 (by omega) (by omega) (by decide)) (hp.2.1 16 61 (by omega) (by omega) (by decide)) (hp.2.1 16 62 (by omega) (by omega) (by decide)) (hp.2.1 16 63 (by omega) (by omega) (by decide)) (hp.2.1 16 64 (by omega) (by omega) (by decide))) 4).trans ((mu_j (hp.2.1 16 48 (by omega) (by omega) (by decide))).trans (congrFun (x80_frJ  (hp.2.1 16 48 (by omega) (by omega) (by decide)) (hp.2.1 16 49 (by omega) (by omega) (by decide)) (hp.2.1 16 50 (by omega) (by omega) (by decide)) (hp.2.1 16 51 (by omega) (by omega) (by decide)) (hp.2.1 16 52 (by omega) (by omega) (by decide)) (hp.2.1 16 53 (by omega) (by omega) (by decide)) (hp.2.1 16 54 (by omega) (by omega) (by decide)) (hp.2.1 16 55 (by omega) (by omega) (by decide)) (hp.2.1 16 56 (by omega) (by omega) (by decide)) (hp.2.1 16 57 (by omega) (by omega) (by decide)) (hp.2.1 16 58 (by omega) (by omega) (by decide)) (hp.2.1 16 59 (by omega) (by omega) (by decide)) (hp.2.1 16 60 (by omega) (by omega) (by decide)) (hp.2.1 16 61 (by omega) (by omega) (by decide)) (hp.2.1 16 62 (by omega) (by omega) (by decide)) (hp.2.1 16 63 (by omega) (by omega) (by decide)) (hp.2.1 16 64 (by omega) (by omega) (by decide))) 4))]; exact hc.1, lx_dec h88 hc.2⟩) k
      rw [k, x125_85, if_neg h88]
theorem x125_85_rule {p : Nat → Nat} {sp : Nat} {ln : Nat} {v1 : Int32} {v2 : Int32} {v3 : Int32} {v4 : Int32} {v5 : Int32} {I : Nat → Int32 → Int32 → Int32 → Int32 → (Nat → Nat → Int32) → (Nat → Nat → Int64) → Prop} {Q : Int32 × (Nat → Nat → Int32) × (Nat → Nat → Int64) → Prop} (h0 : ∀ (v6 : Int32) (v7 : Int32) (v8 : Int32) (v9 : Int32) (J : Nat → Nat → Int32) (L : Nat → Nat → Int64), I 0 v6 v7 v8 v9 J L → Q (if v5 = 0 then (v6, J, L)
    else (v7, J, L))) (h1 : ∀ (c : Nat) (v6 : Int32) (v7 : Int32) (v8 : Int32) (v9 : Int32) (J : Nat → Nat → Int32) (L : Nat → Nat → Int64), I (c + 1) v6 v7 v8 v9 J L →
    if v2 ≤ v9 then if v5 = 0 then (Q (v6, J, L))
      else (Q (v7, J, L))
    else (I c (v6 + ((((x125_114 p sp ln v1 v2 v3 v4 v5 v6 v7 v9 v3.toNatClampNeg (Int32.ofInt 0) (nt_u (x80 (fun i => p (48 + i)) (fun i => p (31 + i)) J) (p 48) 6 v8) L).1) (p 48) 5) - (J (p 31) 5))) (v7 + (x236 (x79 (fun i => p (48 + i)) ((x125_114 p sp ln v1 v2 v3 v4 v5 v6 v7 v9 v3.toNatClampNeg (Int32.ofInt 0) (nt_u (x80 (fun i => p (48 + i)) (fun i => p (31 + i)) J) (p 48) 6 v8) L).1)))) (((x125_114 p sp ln v1 v2 v3 v4 v5 v6 v7 v9 v3.toNatClampNeg (Int32.ofInt 0) (nt_u (x80 (fun i => p (48 + i)) (fun i => p (31 + i)) J) (p 48) 6 v8) L).1) (p 48) 6) (v9 + (Int32.ofInt 1)) ((x125_114 p sp ln v1 v2 v3 v4 v5 v6 v7 v9 v3.toNatClampNeg (Int32.ofInt 0) (nt_u (x80 (fun i => p (48 + i)) (fun i => p (31 + i)) J) (p 48) 6 v8) L).1) ((x125_114 p sp ln v1 v2 v3 v4 v5 v6 v7 v9 v3.toNatClampNeg (Int32.ofInt 0) (nt_u (x80 (fun i => p (48 + i)) (fun i => p (31 + i)) J) (p 48) 6 v8) L).2))) : ∀ (c : Nat) (v6 : Int32) (v7 : Int32) (v8 : Int32) (v9 : Int32) (J : Nat → Nat → Int32) (L : Nat → Nat → Int64), I c v6 v7 v8 v9 J L → Q (x125_85 p sp ln v1 v2 v3 v4 v5 c v6 v7 v8 v9 J L) := by
  intro c
  induction c with
  | zero =>
    intro v6 v7 v8 v9 J L hi
    rw [x125_85]
    exact h0 v6 v7 v8 v9 J L hi
  | succ c ih =>
    intro v6 v7 v8 v9 J L hi
    have hi := h1 c v6 v7 v8 v9 J L hi
    rw [x125_85]
    by_cases h : v2 ≤ v9
    · rw [if_pos h] at hi ⊢
      by_cases h : v5 = 0
      · rw [if_pos h] at hi ⊢
        exact hi
      · rw [if_neg h] at hi ⊢
        exact hi
    · rw [if_neg h] at hi ⊢
      exact ih _ _ _ _ _ _ hi
def x125 (p : Nat → Nat) (sp : Nat) (ln : Nat) (v1 : Int32) (v2 : Int32) (v3 : Int32) (v4 : Int32) (v5 : Int32) (J : Nat → Nat → Int32) (L : Nat → Nat → Int64) : Int32 × (Nat → Nat → Int32) × (Nat → Nat → Int64) := if (J (p 31) 1) = 0 then (Int32.ofInt (-1), J, L)
  else if (x111 p v1 J) = 0 then (Int32.ofInt (-1), J, L)
    else if v2 < (Int32.ofInt 1) then (Int32.ofInt (-1), J, L)
      else if (Int32.ofInt 20) < v2 then (Int32.ofInt (-1), J, L)
        else if v3 < (Int32.ofInt 1) then (Int32.ofInt (-1), J, L)
          else if v3 ≤ (Int32.ofInt 100) then if v4 < 0 then (Int32.ofInt (-1), J, L)
              else if (Int32.ofInt 100) < v4 then (Int32.ofInt (-1), J, L)
                else if v5 < 0 then (Int32.ofInt (-1), J, L)
                  else if v5 ≤ (Int32.ofInt 1) then (x125_85 p sp ln v1 v2 v3 v4 v5 v2.toNatClampNeg (Int32.ofInt 0) (Int32.ofInt 0) (J (p 31) 6) (Int32.ofInt 0) J L)
                    else (Int32.ofInt (-1), J, L)
            else (Int32.ofInt (-1), J, L)
theorem xt125 {X : nt_X} {d : Nat} {M : nt_M} {o : Option Value × nt_M} {p : Nat → Nat} {sp : Nat} {ln : Nat} {ru : Nat} {v1 : Int32} {v2 : Int32} {v3 : Int32} {v4 : Int32} {v5 : Int32} {J : Nat → Nat → Int32} {L : Nat → Nat → Int64} (hp : xs_P M p) (hn : xs_Q M (fun i => p (31 + i))) (hm : xs_Q M (fun i => p (48 + i))) (hk : xs_N M (fun i => p (48 + i))) (hs : xs_S M p ru sp ln) (h0 : ¬ v1 < 0) (hr : nt_R M (p 23) v1.toNatClampNeg = some ru) (h1 : ¬ J (p 16) 4 ≤ v1) (k : nt_ev X d 125 [.ref (p 16), .int v1, .int v2, .int v3, .int v4, .int v5] (me_w (lw M L) J) o) : o = (some (.int ((x125 p sp ln v1 v2 v3 v4 v5 J L).1)), me_w (lw M ((x125 p sp ln v1 v2 v3 v4 v5 J L).2.2)) ((x125 p sp ln v1 v2 v3 v4 v5 J L).2.1)) := by
  have k : nt_rn X d 125 (0, [(0, .ref (p 16)), (1, .int v1), (2, .int v2), (3, .int v3), (4, .int v4), (5, .int v5)], [], me_w (lw M L) J) o := k
  have k := ly_revb 1 (c' := (1, [(0, .ref (p 16)), (1, .int v1), (2, .int v2), (3, .int v3), (4, .int v4), (5, .int v5)], [.ref (p 16)], me_w (lw M L) J)) rfl k
  have k := lz_get (a := (p 16)) (g := 1007) (M := me_w (lw M L) J) (v := .ref (p 31)) rfl (nt_gfR rfl (hp.1 (16, 7, 31) (by decide))) k
  have k := lz_get (a := (p 31)) (g := 601) (M := me_w (lw M L) J) (v := .int (J (p 31) 1)) rfl (congrArg Value.int (rfl)) k
  have k := ly_revb 1 (c' := (if (J (p 31) 1) = 0 then 40 else 10, [(0, .ref (p 16)), (1, .int v1), (2, .int v2), (3, .int v3), (4, .int v4), (5, .int v5)], [], me_w (lw M L) J)) rfl k
  by_cases h7 : (J (p 31) 1) = 0
  · rw [if_pos h7] at k
    have k := ly_revb 1 (c' := (41, [(0, .ref (p 16)), (1, .int v1), (2, .int v2), (3, .int v3), (4, .int v4), (5, .int v5)], [.int (Int32.ofInt (-1))], me_w (lw M L) J)) rfl k
    have k := lz_ri rfl (by decide) k
    rw [k, x125, if_pos h7]
  · rw [if_neg h7] at k
    have k := ly_revb 2 (c' := (12, [(0, .ref (p 16)), (1, .int v1), (2, .int v2), (3, .int v3), (4, .int v4), (5, .int v5)], [.int v1, .ref (p 16)], me_w (lw M L) J)) rfl k
    obtain ⟨d1, o1, ed, kc, k⟩ := lz_c (g := 111) (q := 1) (vs := [.ref (p 16), .int v1]) (rest := []) rfl rfl (by decide) (Or.inr (Or.inl ⟨_, rfl, rfl⟩)) rfl k
    have e1 := xt111 (xs_lp hp) kc
    subst e1
    have k : nt_rn X _ 125 (15, [(0, .ref (p 16)), (1, .int v1), (2, .int v2), (3, .int v3), (4, .int v4), (5, .int v5)], [.int (x111 p v1 J)], me_w (lw M L) J) _ := k
    have k := ly_revb 1 (c' := (if (x111 p v1 J) = 0 then 40 else 18, [(0, .ref (p 16)), (1, .int v1), (2, .int v2), (3, .int v3), (4, .int v4), (5, .int v5)], [], me_w (lw M L) J)) rfl k
    by_cases h15 : (x111 p v1 J) = 0
    · rw [if_pos h15] at k
      have k := ly_revb 1 (c' := (41, [(0, .ref (p 16)), (1, .int v1), (2, .int v2), (3, .int v3), (4, .int v4), (5, .int v5)], [.int (Int32.ofInt (-1))], me_w (lw M L) J)) rfl k
      have k := lz_ri rfl (by decide) k
      rw [k, x125, if_neg h7, if_pos h15]
    · rw [if_neg h15] at k
      have k := ly_revb 3 (c' := (if v2 < (Int32.ofInt 1) then 40 else 23, [(0, .ref (p 16)), (1, .int v1), (2, .int v2), (3, .int v3), (4, .int v4), (5, .int v5)], [], me_w (lw M L) J)) rfl k
      by_cases h20 : v2 < (Int32.ofInt 1)
      · rw [if_pos h20] at k
        have k := ly_revb 1 (c' := (41, [(0, .ref (p 16)), (1, .int v1), (2, .int v2), (3, .int v3), (4, .int v4), (5, .int v5)], [.int (Int32.ofInt (-1))], me_w (lw M L) J)) rfl k
        have k := lz_ri rfl (by decide) k
        rw [k, x125, if_neg h7, if_neg h15, if_pos h20]
      · rw [if_neg h20] at k
        have k := ly_revb 3 (c' := (if (Int32.ofInt 20) < v2 then 40 else 29, [(0, .ref (p 16)), (1, .int v1), (2, .int v2), (3, .int v3), (4, .int v4), (5, .int v5)], [], me_w (lw M L) J)) rfl k
        by_cases h26 : (Int32.ofInt 20) < v2
        · rw [if_pos h26] at k
          have k := ly_revb 1 (c' := (41, [(0, .ref (p 16)), (1, .int v1), (2, .int v2), (3, .int v3), (4, .int v4), (5, .int v5)], [.int (Int32.ofInt (-1))], me_w (lw M L) J)) rfl k
          have k := lz_ri rfl (by decide) k
          rw [k, x125, if_neg h7, if_neg h15, if_neg h20, if_pos h26]
        · rw [if_neg h26] at k
          have k := ly_revb 3 (c' := (if v3 < (Int32.ofInt 1) then 40 else 34, [(0, .ref (p 16)), (1, .int v1), (2, .int v2), (3, .int v3), (4, .int v4), (5, .int v5)], [], me_w (lw M L) J)) rfl k
          by_cases h31 : v3 < (Int32.ofInt 1)
          · rw [if_pos h31] at k
            have k := ly_revb 1 (c' := (41, [(0, .ref (p 16)), (1, .int v1), (2, .int v2), (3, .int v3), (4, .int v4), (5, .int v5)], [.int (Int32.ofInt (-1))], me_w (lw M L) J)) rfl k
            have k := lz_ri rfl (by decide) k
            rw [k, x125, if_neg h7, if_neg h15, if_neg h20, if_neg h26, if_pos h31]
          · rw [if_neg h31] at k
            have k := ly_revb 3 (c' := (if v3 ≤ (Int32.ofInt 100) then 42 else 40, [(0, .ref (p 16)), (1, .int v1), (2, .int v2), (3, .int v3), (4, .int v4), (5, .int v5)], [], me_w (lw M L) J)) rfl k
            by_cases h37 : v3 ≤ (Int32.ofInt 100)
            · rw [if_pos h37] at k
              have k := ly_revb 2 (c' := (if v4 < 0 then 65 else 47, [(0, .ref (p 16)), (1, .int v1), (2, .int v2), (3, .int v3), (4, .int v4), (5, .int v5)], [], me_w (lw M L) J)) rfl k
              by_cases h44 : v4 < 0
              · rw [if_pos h44] at k
                have k := ly_revb 1 (c' := (66, [(0, .ref (p 16)), (1, .int v1), (2, .int v2), (3, .int v3), (4, .int v4), (5, .int v5)], [.int (Int32.ofInt (-1))], me_w (lw M L) J)) rfl k
                have k := lz_ri rfl (by decide) k
                rw [k, x125, if_neg h7, if_neg h15, if_neg h20, if_neg h26, if_neg h31, if_pos h37, if_pos h44]
              · rw [if_neg h44] at k
                have k := ly_revb 3 (c' := (if (Int32.ofInt 100) < v4 then 65 else 54, [(0, .ref (p 16)), (1, .int v1), (2, .int v2), (3, .int v3), (4, .int v4), (5, .int v5)], [], me_w (lw M L) J)) rfl k
                by_cases h51 : (Int32.ofInt 100) < v4
                · rw [if_pos h51] at k
                  have k := ly_revb 1 (c' := (66, [(0, .ref (p 16)), (1, .int v1), (2, .int v2), (3, .int v3), (4, .int v4), (5, .int v5)], [.int (Int32.ofInt (-1))], me_w (lw M L) J)) rfl k
                  have k := lz_ri rfl (by decide) k
                  rw [k, x125, if_neg h7, if_neg h15, if_neg h20, if_neg h26, if_neg h31, if_pos h37, if_neg h44, if_pos h51]
                · rw [if_neg h51] at k
                  have k := ly_revb 2 (c' := (if v5 < 0 then 65 else 59, [(0, .ref (p 16)), (1, .int v1), (2, .int v2), (3, .int v3), (4, .int v4), (5, .int v5)], [], me_w (lw M L) J)) rfl k
                  by_cases h56 : v5 < 0
                  · rw [if_pos h56] at k
                    have k := ly_revb 1 (c' := (66, [(0, .ref (p 16)), (1, .int v1), (2, .int v2), (3, .int v3), (4, .int v4), (5, .int v5)], [.int (Int32.ofInt (-1))], me_w (lw M L) J)) rfl k
                    have k := lz_ri rfl (by decide) k
                    rw [k, x125, if_neg h7, if_neg h15, if_neg h20, if_neg h26, if_neg h31, if_pos h37, if_neg h44, if_neg h51, if_pos h56]
                  · rw [if_neg h56] at k
                    have k := ly_revb 3 (c' := (if v5 ≤ (Int32.ofInt 1) then 67 else 65, [(0, .ref (p 16)), (1, .int v1), (2, .int v2), (3, .int v3), (4, .int v4), (5, .int v5)], [], me_w (lw M L) J)) rfl k
                    by_cases h62 : v5 ≤ (Int32.ofInt 1)
                    · rw [if_pos h62] at k
                      have k := ly_revb 5 (c' := (74, [(7, .int (Int32.ofInt 0)), (6, .int (Int32.ofInt 0)), (0, .ref (p 16)), (1, .int v1), (2, .int v2), (3, .int v3), (4, .int v4), (5, .int v5)], [.ref (p 16)], me_w (lw M L) J)) rfl k
                      have k := lz_get (a := (p 16)) (g := 1007) (M := me_w (lw M L) J) (v := .ref (p 31)) rfl (nt_gfR rfl (hp.1 (16, 7, 31) (by decide))) k
                      have k := lz_get (a := (p 31)) (g := 606) (M := me_w (lw M L) J) (v := .int (J (p 31) 6)) rfl (congrArg Value.int (rfl)) k
                      have k := ly_revb 3 (c' := (85, [(9, .int (Int32.ofInt 0)), (8, .int (J (p 31) 6)), (7, .int (Int32.ofInt 0)), (6, .int (Int32.ofInt 0)), (0, .ref (p 16)), (1, .int v1), (2, .int v2), (3, .int v3), (4, .int v4), (5, .int v5)], [], me_w (lw M L) J)) rfl k
                      have k := nt_rn_w (a := [(9, .int (Int32.ofInt 0)), (8, .int (J (p 31) 6)), (7, .int (Int32.ofInt 0)), (6, .int (Int32.ofInt 0)), (0, .ref (p 16)), (1, .int v1), (2, .int v2), (3, .int v3), (4, .int v4), (5, .int v5)]) (b := [(0, .ref (p 16)), (1, .int v1), (2, .int v2), (3, .int v3), (4, .int v4), (5, .int v5), (6, .int (Int32.ofInt 0)), (7, .int (Int32.ofInt 0)), (8, .int (J (p 31) 6)), (9, .int (Int32.ofInt 0)), (10, .int (Int32.ofInt 0))]) ⟨rfl, rfl, rfl, rfl, rfl, rfl, rfl, rfl, rfl, rfl, trivial⟩ rfl k
                      have k := xt125_85 hp hn hm hk hs h0 hr  v2.toNatClampNeg (Int32.ofInt 0) (Int32.ofInt 0) (J (p 31) 6) (Int32.ofInt 0) (Int32.ofInt 0) J L (⟨h1, lx_beg (by decide)⟩) k
                      rw [k, x125, if_neg h7, if_neg h15, if_neg h20, if_neg h26, if_neg h31, if_pos h37, if_neg h44, if_neg h51, if_neg h56, if_pos h62]
                    · rw [if_neg h62] at k
                      have k := ly_revb 1 (c' := (66, [(0, .ref (p 16)), (1, .int v1), (2, .int v2), (3, .int v3), (4, .int v4), (5, .int v5)], [.int (Int32.ofInt (-1))], me_w (lw M L) J)) rfl k
                      have k := lz_ri rfl (by decide) k
                      rw [k, x125, if_neg h7, if_neg h15, if_neg h20, if_neg h26, if_neg h31, if_pos h37, if_neg h44, if_neg h51, if_neg h56, if_neg h62]
            · rw [if_neg h37] at k
              have k := ly_revb 1 (c' := (41, [(0, .ref (p 16)), (1, .int v1), (2, .int v2), (3, .int v3), (4, .int v4), (5, .int v5)], [.int (Int32.ofInt (-1))], me_w (lw M L) J)) rfl k
              have k := lz_ri rfl (by decide) k
              rw [k, x125, if_neg h7, if_neg h15, if_neg h20, if_neg h26, if_neg h31, if_neg h37]
theorem x125_85_frJ {p : Nat → Nat} {sp : Nat} {ln : Nat} {v1 : Int32} {v2 : Int32} {v3 : Int32} {v4 : Int32} {v5 : Int32} {b : Nat} : ∀ (c : Nat) (v6 : Int32) (v7 : Int32) (v8 : Int32) (v9 : Int32) (J : Nat → Nat → Int32) (L : Nat → Nat → Int64), b ≠ p 25 → b ≠ p 48 → b ≠ p 49 → b ≠ p 50 → b ≠ p 51 → b ≠ p 52 → b ≠ p 53 → b ≠ p 54 → b ≠ p 55 → b ≠ p 56 → b ≠ p 57 → b ≠ p 58 → b ≠ p 59 → b ≠ p 60 → b ≠ p 61 → b ≠ p 62 → b ≠ p 63 → b ≠ p 64 → (x125_85 p sp ln v1 v2 v3 v4 v5 c v6 v7 v8 v9 J L).2.1 b = J b := by
  intro c
  induction c with
  | zero =>
    intro v6 v7 v8 v9 J L n0 n1 n2 n3 n4 n5 n6 n7 n8 n9 n10 n11 n12 n13 n14 n15 n16 n17
    rw [x125_85]
    by_cases h : v5 = 0
    · rw [if_pos h]
      all_goals first | (dsimp only; exact (show J b = J b from rfl)) | exact (show J b = J b from rfl)
    · rw [if_neg h]
      all_goals first | (dsimp only; exact (show J b = J b from rfl)) | exact (show J b = J b from rfl)
  | succ c ih =>
    intro v6 v7 v8 v9 J L n0 n1 n2 n3 n4 n5 n6 n7 n8 n9 n10 n11 n12 n13 n14 n15 n16 n17
    rw [x125_85]
    by_cases h : v2 ≤ v9
    · rw [if_pos h]
      by_cases h : v5 = 0
      · rw [if_pos h]
        all_goals first | (dsimp only; exact (show J b = J b from rfl)) | exact (show J b = J b from rfl)
      · rw [if_neg h]
        all_goals first | (dsimp only; exact (show J b = J b from rfl)) | exact (show J b = J b from rfl)
    · rw [if_neg h]
      exact (ih _ _ _ _ _ _ n0 n1 n2 n3 n4 n5 n6 n7 n8 n9 n10 n11 n12 n13 n14 n15 n16 n17).trans ((x125_114_frJ _ _ _ _ n0 n1 n11 n12 n13 n14 n15 n16 n17).trans ((mu_o n1).trans (x80_frJ  n1 n2 n3 n4 n5 n6 n7 n8 n9 n10 n11 n12 n13 n14 n15 n16 n17)))
theorem x125_frJ {p : Nat → Nat} {sp : Nat} {ln : Nat} {v1 : Int32} {v2 : Int32} {v3 : Int32} {v4 : Int32} {v5 : Int32} {J : Nat → Nat → Int32} {L : Nat → Nat → Int64} {b : Nat} (n0 : b ≠ p 25) (n1 : b ≠ p 48) (n2 : b ≠ p 49) (n3 : b ≠ p 50) (n4 : b ≠ p 51) (n5 : b ≠ p 52) (n6 : b ≠ p 53) (n7 : b ≠ p 54) (n8 : b ≠ p 55) (n9 : b ≠ p 56) (n10 : b ≠ p 57) (n11 : b ≠ p 58) (n12 : b ≠ p 59) (n13 : b ≠ p 60) (n14 : b ≠ p 61) (n15 : b ≠ p 62) (n16 : b ≠ p 63) (n17 : b ≠ p 64) : (x125 p sp ln v1 v2 v3 v4 v5 J L).2.1 b = J b := by
  unfold x125
  by_cases h : (J (p 31) 1) = 0
  · rw [if_pos h]
    all_goals first | (dsimp only; exact (show J b = J b from rfl)) | exact (show J b = J b from rfl)
  · rw [if_neg h]
    by_cases h : (x111 p v1 J) = 0
    · rw [if_pos h]
      all_goals first | (dsimp only; exact (show J b = J b from rfl)) | exact (show J b = J b from rfl)
    · rw [if_neg h]
      by_cases h : v2 < (Int32.ofInt 1)
      · rw [if_pos h]
        all_goals first | (dsimp only; exact (show J b = J b from rfl)) | exact (show J b = J b from rfl)
      · rw [if_neg h]
        by_cases h : (Int32.ofInt 20) < v2
        · rw [if_pos h]
          all_goals first | (dsimp only; exact (show J b = J b from rfl)) | exact (show J b = J b from rfl)
        · rw [if_neg h]
          by_cases h : v3 < (Int32.ofInt 1)
          · rw [if_pos h]
            all_goals first | (dsimp only; exact (show J b = J b from rfl)) | exact (show J b = J b from rfl)
          · rw [if_neg h]
            by_cases h : v3 ≤ (Int32.ofInt 100)
            · rw [if_pos h]
              by_cases h : v4 < 0
              · rw [if_pos h]
                all_goals first | (dsimp only; exact (show J b = J b from rfl)) | exact (show J b = J b from rfl)
              · rw [if_neg h]
                by_cases h : (Int32.ofInt 100) < v4
                · rw [if_pos h]
                  all_goals first | (dsimp only; exact (show J b = J b from rfl)) | exact (show J b = J b from rfl)
                · rw [if_neg h]
                  by_cases h : v5 < 0
                  · rw [if_pos h]
                    all_goals first | (dsimp only; exact (show J b = J b from rfl)) | exact (show J b = J b from rfl)
                  · rw [if_neg h]
                    by_cases h : v5 ≤ (Int32.ofInt 1)
                    · rw [if_pos h]
                      exact (x125_85_frJ _ _ _ _ _ _ _ n0 n1 n2 n3 n4 n5 n6 n7 n8 n9 n10 n11 n12 n13 n14 n15 n16 n17).trans (rfl)
                    · rw [if_neg h]
                      all_goals first | (dsimp only; exact (show J b = J b from rfl)) | exact (show J b = J b from rfl)
            · rw [if_neg h]
              all_goals first | (dsimp only; exact (show J b = J b from rfl)) | exact (show J b = J b from rfl)
theorem x125_85_frL {p : Nat → Nat} {sp : Nat} {ln : Nat} {v1 : Int32} {v2 : Int32} {v3 : Int32} {v4 : Int32} {v5 : Int32} {b : Nat} : ∀ (c : Nat) (v6 : Int32) (v7 : Int32) (v8 : Int32) (v9 : Int32) (J : Nat → Nat → Int32) (L : Nat → Nat → Int64), b ≠ p 25 → b ≠ p 26 → b ≠ p 27 → (x125_85 p sp ln v1 v2 v3 v4 v5 c v6 v7 v8 v9 J L).2.2 b = L b := by
  intro c
  induction c with
  | zero =>
    intro v6 v7 v8 v9 J L n0 n1 n2
    rw [x125_85]
    by_cases h : v5 = 0
    · rw [if_pos h]
      all_goals first | (dsimp only; exact (show L b = L b from rfl)) | exact (show L b = L b from rfl)
    · rw [if_neg h]
      all_goals first | (dsimp only; exact (show L b = L b from rfl)) | exact (show L b = L b from rfl)
  | succ c ih =>
    intro v6 v7 v8 v9 J L n0 n1 n2
    rw [x125_85]
    by_cases h : v2 ≤ v9
    · rw [if_pos h]
      by_cases h : v5 = 0
      · rw [if_pos h]
        all_goals first | (dsimp only; exact (show L b = L b from rfl)) | exact (show L b = L b from rfl)
      · rw [if_neg h]
        all_goals first | (dsimp only; exact (show L b = L b from rfl)) | exact (show L b = L b from rfl)
    · rw [if_neg h]
      exact (ih _ _ _ _ _ _ n0 n1 n2).trans (x125_114_frL _ _ _ _ n0 n1 n2)
theorem x125_frL {p : Nat → Nat} {sp : Nat} {ln : Nat} {v1 : Int32} {v2 : Int32} {v3 : Int32} {v4 : Int32} {v5 : Int32} {J : Nat → Nat → Int32} {L : Nat → Nat → Int64} {b : Nat} (n0 : b ≠ p 25) (n1 : b ≠ p 26) (n2 : b ≠ p 27) : (x125 p sp ln v1 v2 v3 v4 v5 J L).2.2 b = L b := by
  unfold x125
  by_cases h : (J (p 31) 1) = 0
  · rw [if_pos h]
    all_goals first | (dsimp only; exact (show L b = L b from rfl)) | exact (show L b = L b from rfl)
  · rw [if_neg h]
    by_cases h : (x111 p v1 J) = 0
    · rw [if_pos h]
      all_goals first | (dsimp only; exact (show L b = L b from rfl)) | exact (show L b = L b from rfl)
    · rw [if_neg h]
      by_cases h : v2 < (Int32.ofInt 1)
      · rw [if_pos h]
        all_goals first | (dsimp only; exact (show L b = L b from rfl)) | exact (show L b = L b from rfl)
      · rw [if_neg h]
        by_cases h : (Int32.ofInt 20) < v2
        · rw [if_pos h]
          all_goals first | (dsimp only; exact (show L b = L b from rfl)) | exact (show L b = L b from rfl)
        · rw [if_neg h]
          by_cases h : v3 < (Int32.ofInt 1)
          · rw [if_pos h]
            all_goals first | (dsimp only; exact (show L b = L b from rfl)) | exact (show L b = L b from rfl)
          · rw [if_neg h]
            by_cases h : v3 ≤ (Int32.ofInt 100)
            · rw [if_pos h]
              by_cases h : v4 < 0
              · rw [if_pos h]
                all_goals first | (dsimp only; exact (show L b = L b from rfl)) | exact (show L b = L b from rfl)
              · rw [if_neg h]
                by_cases h : (Int32.ofInt 100) < v4
                · rw [if_pos h]
                  all_goals first | (dsimp only; exact (show L b = L b from rfl)) | exact (show L b = L b from rfl)
                · rw [if_neg h]
                  by_cases h : v5 < 0
                  · rw [if_pos h]
                    all_goals first | (dsimp only; exact (show L b = L b from rfl)) | exact (show L b = L b from rfl)
                  · rw [if_neg h]
                    by_cases h : v5 ≤ (Int32.ofInt 1)
                    · rw [if_pos h]
                      exact (x125_85_frL _ _ _ _ _ _ _ n0 n1 n2).trans (rfl)
                    · rw [if_neg h]
                      all_goals first | (dsimp only; exact (show L b = L b from rfl)) | exact (show L b = L b from rfl)
            · rw [if_neg h]
              all_goals first | (dsimp only; exact (show L b = L b from rfl)) | exact (show L b = L b from rfl)
/-! .years -/
def x125N_114 (p : Nat → Nat) (v1 : Int32) (v2 : Int32) (v3 : Int32) (v4 : Int32) (v5 : Int32) (v6 : Int32) (v7 : Int32) (v9 : Int32) : Nat → Int32 → (Nat → Nat → Int32) → (Nat → Nat → Int32)
  | 0, v10, J => J
  | c + 1, v10, J => if v3 ≤ v10 then J
    else if (Int32.ofInt 99) < (J (p 48) 2) then J
      else (x125N_114 p v1 v2 v3 v4 v5 v6 v7 v9 c (v10 + (Int32.ofInt 1)) (x81 (fun i => p (48 + i)) v4 (x1N p (fun i => p (48 + i)) J)))
theorem xt125N_114 {X : nt_X} {d : Nat} {M : nt_M} {o : Option Value × nt_M} {p : Nat → Nat} {v1 : Int32} {v2 : Int32} {v3 : Int32} {v4 : Int32} {v5 : Int32} {v6 : Int32} {v7 : Int32} {v8 : Int32} {v9 : Int32} (hp : xs_P M p) (hn : xs_Q M (fun i => p (31 + i))) (hm : xs_Q M (fun i => p (48 + i))) (hk : xs_N M (fun i => p (48 + i))) (h0 : v1 < 0) : ∀ (c : Nat) (v10 : Int32) (J : Nat → Nat → Int32), v3.toInt - v10.toInt ≤ c → nt_rn X d 125 (114, [(0, .ref (p 16)), (1, .int v1), (2, .int v2), (3, .int v3), (4, .int v4), (5, .int v5), (6, .int v6), (7, .int v7), (8, .int v8), (9, .int v9), (10, .int v10)], [], me_w M J) o → ∃ (w10 : Int32), nt_rn X d 125 (163, [(0, .ref (p 16)), (1, .int v1), (2, .int v2), (3, .int v3), (4, .int v4), (5, .int v5), (6, .int v6), (7, .int v7), (8, .int v8), (9, .int v9), (10, .int w10)], [], me_w M (x125N_114 p v1 v2 v3 v4 v5 v6 v7 v9 c v10 J)) o := by
  intro c
  induction c with
  | zero =>
    intro v10 J hc k
    have k := ly_revb 3 (c' := (if v3 ≤ v10 then 163 else 120, [(0, .ref (p 16)), (1, .int v1), (2, .int v2), (3, .int v3), (4, .int v4), (5, .int v5), (6, .int v6), (7, .int v7), (8, .int v8), (9, .int v9), (10, .int v10)], [], me_w M J)) rfl k
    have h117 : v3 ≤ v10 := lx_end hc
    rw [if_pos h117] at k
    have k := nt_rn_w (a := [(0, .ref (p 16)), (1, .int v1), (2, .int v2), (3, .int v3), (4, .int v4), (5, .int v5), (6, .int v6), (7, .int v7), (8, .int v8), (9, .int v9), (10, .int v10)]) (b := [(0, .ref (p 16)), (1, .int v1), (2, .int v2), (3, .int v3), (4, .int v4), (5, .int v5), (6, .int v6), (7, .int v7), (8, .int v8), (9, .int v9), (10, .int v10)]) ⟨rfl, rfl, rfl, rfl, rfl, rfl, rfl, rfl, rfl, rfl, rfl, trivial⟩ rfl k
    rw [x125N_114]
    exact ⟨_, k⟩
  | succ c ih =>
    intro v10 J hc k
    have k := ly_revb 3 (c' := (if v3 ≤ v10 then 163 else 120, [(0, .ref (p 16)), (1, .int v1), (2, .int v2), (3, .int v3), (4, .int v4), (5, .int v5), (6, .int v6), (7, .int v7), (8, .int v8), (9, .int v9), (10, .int v10)], [], me_w M J)) rfl k
    by_cases h117 : v3 ≤ v10
    · rw [if_pos h117] at k
      have k := nt_rn_w (a := [(0, .ref (p 16)), (1, .int v1), (2, .int v2), (3, .int v3), (4, .int v4), (5, .int v5), (6, .int v6), (7, .int v7), (8, .int v8), (9, .int v9), (10, .int v10)]) (b := [(0, .ref (p 16)), (1, .int v1), (2, .int v2), (3, .int v3), (4, .int v4), (5, .int v5), (6, .int v6), (7, .int v7), (8, .int v8), (9, .int v9), (10, .int v10)]) ⟨rfl, rfl, rfl, rfl, rfl, rfl, rfl, rfl, rfl, rfl, rfl, trivial⟩ rfl k
      rw [x125N_114, if_pos h117]
      exact ⟨_, k⟩
    · rw [if_neg h117] at k
      have k := ly_revb 1 (c' := (121, [(0, .ref (p 16)), (1, .int v1), (2, .int v2), (3, .int v3), (4, .int v4), (5, .int v5), (6, .int v6), (7, .int v7), (8, .int v8), (9, .int v9), (10, .int v10)], [.ref (p 16)], me_w M J)) rfl k
      have k := lz_get (a := (p 16)) (g := 1008) (M := me_w M J) (v := .ref (p 48)) rfl (nt_gfR rfl (hp.1 (16, 8, 48) (by decide))) k
      have k := lz_get (a := (p 48)) (g := 602) (M := me_w M J) (v := .int (J (p 48) 2)) rfl (congrArg Value.int (rfl)) k
      have k := ly_revb 2 (c' := (if (Int32.ofInt 99) < (J (p 48) 2) then 163 else 132, [(0, .ref (p 16)), (1, .int v1), (2, .int v2), (3, .int v3), (4, .int v4), (5, .int v5), (6, .int v6), (7, .int v7), (8, .int v8), (9, .int v9), (10, .int v10)], [], me_w M J)) rfl k
      by_cases h129 : (Int32.ofInt 99) < (J (p 48) 2)
      · rw [if_pos h129] at k
        have k := nt_rn_w (a := [(0, .ref (p 16)), (1, .int v1), (2, .int v2), (3, .int v3), (4, .int v4), (5, .int v5), (6, .int v6), (7, .int v7), (8, .int v8), (9, .int v9), (10, .int v10)]) (b := [(0, .ref (p 16)), (1, .int v1), (2, .int v2), (3, .int v3), (4, .int v4), (5, .int v5), (6, .int v6), (7, .int v7), (8, .int v8), (9, .int v9), (10, .int v10)]) ⟨rfl, rfl, rfl, rfl, rfl, rfl, rfl, rfl, rfl, rfl, rfl, trivial⟩ rfl k
        rw [x125N_114, if_neg h117, if_pos h129]
        exact ⟨_, k⟩
      · rw [if_neg h129] at k
        have k := ly_revb 1 (c' := (133, [(0, .ref (p 16)), (1, .int v1), (2, .int v2), (3, .int v3), (4, .int v4), (5, .int v5), (6, .int v6), (7, .int v7), (8, .int v8), (9, .int v9), (10, .int v10)], [.ref (p 16)], me_w M J)) rfl k
        have k := lz_get (a := (p 16)) (g := 1005) (M := me_w M J) (v := .ref (p 24)) rfl (nt_gfR rfl (hp.1 (16, 5, 24) (by decide))) k
        have k := ly_revb 1 (c' := (137, [(0, .ref (p 16)), (1, .int v1), (2, .int v2), (3, .int v3), (4, .int v4), (5, .int v5), (6, .int v6), (7, .int v7), (8, .int v8), (9, .int v9), (10, .int v10)], [.ref (p 16), .ref (p 24)], me_w M J)) rfl k
        have k := lz_get (a := (p 16)) (g := 1008) (M := me_w M J) (v := .ref (p 48)) rfl (nt_gfR rfl (hp.1 (16, 8, 48) (by decide))) k
        have k := ly_revb 2 (c' := (142, [(0, .ref (p 16)), (1, .int v1), (2, .int v2), (3, .int v3), (4, .int v4), (5, .int v5), (6, .int v6), (7, .int v7), (8, .int v8), (9, .int v9), (10, .int v10)], [.int v1, .ref (p 16), .ref (p 48), .ref (p 24)], me_w M J)) rfl k
        obtain ⟨d1, o1, ed, kc, k⟩ := lz_c (g := 112) (q := 1) (vs := [.ref (p 16), .int v1]) (rest := [.ref (p 48), .ref (p 24)]) rfl rfl (by decide) (Or.inr (Or.inl ⟨_, rfl, rfl⟩)) rfl k
        have e1 := xr112N h0 kc
        subst e1
        have k : nt_rn X _ 125 (145, [(0, .ref (p 16)), (1, .int v1), (2, .int v2), (3, .int v3), (4, .int v4), (5, .int v5), (6, .int v6), (7, .int v7), (8, .int v8), (9, .int v9), (10, .int v10)], [.null, .ref (p 48), .ref (p 24)], me_w M J) _ := k
        obtain ⟨d1, o1, ed, kc, k⟩ := lz_c (g := 1) (q := 1) (vs := [.ref (p 24), .ref (p 48), .null]) (rest := []) rfl rfl (by decide) (Or.inr (Or.inl ⟨_, rfl, rfl⟩)) rfl k
        have e1 := xt1N hp hm (xs_x48 hp) kc
        subst e1
        have k : nt_rn X _ 125 (148, [(0, .ref (p 16)), (1, .int v1), (2, .int v2), (3, .int v3), (4, .int v4), (5, .int v5), (6, .int v6), (7, .int v7), (8, .int v8), (9, .int v9), (10, .int v10)], [], me_w M (x1N p (fun i => p (48 + i)) J)) _ := k
        have k := ly_revb 1 (c' := (149, [(0, .ref (p 16)), (1, .int v1), (2, .int v2), (3, .int v3), (4, .int v4), (5, .int v5), (6, .int v6), (7, .int v7), (8, .int v8), (9, .int v9), (10, .int v10)], [.ref (p 16)], me_w M (x1N p (fun i => p (48 + i)) J))) rfl k
        have k := lz_get (a := (p 16)) (g := 1008) (M := me_w M (x1N p (fun i => p (48 + i)) J)) (v := .ref (p 48)) rfl (nt_gfR rfl (hp.1 (16, 8, 48) (by decide))) k
        have k := ly_revb 1 (c' := (154, [(0, .ref (p 16)), (1, .int v1), (2, .int v2), (3, .int v3), (4, .int v4), (5, .int v5), (6, .int v6), (7, .int v7), (8, .int v8), (9, .int v9), (10, .int v10)], [.int v4, .ref (p 48)], me_w M (x1N p (fun i => p (48 + i)) J))) rfl k
        obtain ⟨d1, o1, ed, kc, k⟩ := lz_c (g := 81) (q := 1) (vs := [.ref (p 48), .int v4]) (rest := []) rfl rfl (by decide) (Or.inr (Or.inl ⟨_, rfl, rfl⟩)) rfl k
        have e1 := xt81 hm kc
        subst e1
        have k : nt_rn X _ 125 (157, [(0, .ref (p 16)), (1, .int v1), (2, .int v2), (3, .int v3), (4, .int v4), (5, .int v5), (6, .int v6), (7, .int v7), (8, .int v8), (9, .int v9), (10, .int v10)], [], me_w M (x81 (fun i => p (48 + i)) v4 (x1N p (fun i => p (48 + i)) J))) _ := k
        have k := ly_revb 2 (c' := (114, [(10, .int (v10 + (Int32.ofInt 1))), (0, .ref (p 16)), (1, .int v1), (2, .int v2), (3, .int v3), (4, .int v4), (5, .int v5), (6, .int v6), (7, .int v7), (8, .int v8), (9, .int v9)], [], me_w M (x81 (fun i => p (48 + i)) v4 (x1N p (fun i => p (48 + i)) J)))) rfl k
        have k := nt_rn_w (a := [(10, .int (v10 + (Int32.ofInt 1))), (0, .ref (p 16)), (1, .int v1), (2, .int v2), (3, .int v3), (4, .int v4), (5, .int v5), (6, .int v6), (7, .int v7), (8, .int v8), (9, .int v9)]) (b := [(0, .ref (p 16)), (1, .int v1), (2, .int v2), (3, .int v3), (4, .int v4), (5, .int v5), (6, .int v6), (7, .int v7), (8, .int v8), (9, .int v9), (10, .int (v10 + (Int32.ofInt 1)))]) ⟨rfl, rfl, rfl, rfl, rfl, rfl, rfl, rfl, rfl, rfl, rfl, trivial⟩ rfl k
        have k := ih (v10 + (Int32.ofInt 1)) (x81 (fun i => p (48 + i)) v4 (x1N p (fun i => p (48 + i)) J)) (lx_dec h117 hc) k
        rw [x125N_114, if_neg h117, if_neg h129]
        exact k
theorem x125N_114_rule {p : Nat → Nat} {v1 : Int32} {v2 : Int32} {v3 : Int32} {v4 : Int32} {v5 : Int32} {v6 : Int32} {v7 : Int32} {v9 : Int32} {I : Nat → Int32 → (Nat → Nat → Int32) → Prop} {Q : (Nat → Nat → Int32) → Prop} (h0 : ∀ (v10 : Int32) (J : Nat → Nat → Int32), I 0 v10 J → Q J) (h1 : ∀ (c : Nat) (v10 : Int32) (J : Nat → Nat → Int32), I (c + 1) v10 J →
    if v3 ≤ v10 then (Q J)
    else if (Int32.ofInt 99) < (J (p 48) 2) then (Q J)
      else (I c (v10 + (Int32.ofInt 1)) (x81 (fun i => p (48 + i)) v4 (x1N p (fun i => p (48 + i)) J)))) : ∀ (c : Nat) (v10 : Int32) (J : Nat → Nat → Int32), I c v10 J → Q (x125N_114 p v1 v2 v3 v4 v5 v6 v7 v9 c v10 J) := by
  intro c
  induction c with
  | zero =>
    intro v10 J hi
    rw [x125N_114]
    exact h0 v10 J hi
  | succ c ih =>
    intro v10 J hi
    have hi := h1 c v10 J hi
    rw [x125N_114]
    by_cases h : v3 ≤ v10
    · rw [if_pos h] at hi ⊢
      exact hi
    · rw [if_neg h] at hi ⊢
      by_cases h : (Int32.ofInt 99) < (J (p 48) 2)
      · rw [if_pos h] at hi ⊢
        exact hi
      · rw [if_neg h] at hi ⊢
        exact ih _ _ hi
theorem x125N_114_frJ {p : Nat → Nat} {v1 : Int32} {v2 : Int32} {v3 : Int32} {v4 : Int32} {v5 : Int32} {v6 : Int32} {v7 : Int32} {v9 : Int32} {b : Nat} : ∀ (c : Nat) (v10 : Int32) (J : Nat → Nat → Int32), b ≠ p 48 → b ≠ p 58 → b ≠ p 59 → b ≠ p 60 → b ≠ p 61 → b ≠ p 63 → b ≠ p 64 → x125N_114 p v1 v2 v3 v4 v5 v6 v7 v9 c v10 J b = J b := by
  intro c
  induction c with
  | zero =>
    intro v10 J n0 n1 n2 n3 n4 n5 n6
    rw [x125N_114]
    all_goals first | (dsimp only; exact (show J b = J b from rfl)) | exact (show J b = J b from rfl)
  | succ c ih =>
    intro v10 J n0 n1 n2 n3 n4 n5 n6
    rw [x125N_114]
    by_cases h : v3 ≤ v10
    · rw [if_pos h]
      all_goals first | (dsimp only; exact (show J b = J b from rfl)) | exact (show J b = J b from rfl)
    · rw [if_neg h]
      by_cases h : (Int32.ofInt 99) < (J (p 48) 2)
      · rw [if_pos h]
        all_goals first | (dsimp only; exact (show J b = J b from rfl)) | exact (show J b = J b from rfl)
      · rw [if_neg h]
        exact (ih _ _ n0 n1 n2 n3 n4 n5 n6).trans ((x81_frJ  n0 n4).trans (x1N_frJ  n0 n1 n2 n3 n4 n5 n6))
def x125N_85 (p : Nat → Nat) (v1 : Int32) (v2 : Int32) (v3 : Int32) (v4 : Int32) (v5 : Int32) : Nat → Int32 → Int32 → Int32 → Int32 → (Nat → Nat → Int32) → Int32 × (Nat → Nat → Int32)
  | 0, v6, v7, v8, v9, J => if v5 = 0 then (v6, J)
    else (v7, J)
  | c + 1, v6, v7, v8, v9, J => if v2 ≤ v9 then if v5 = 0 then (v6, J)
      else (v7, J)
    else (x125N_85 p v1 v2 v3 v4 v5 c (v6 + (((x125N_114 p v1 v2 v3 v4 v5 v6 v7 v9 v3.toNatClampNeg (Int32.ofInt 0) (nt_u (x80 (fun i => p (48 + i)) (fun i => p (31 + i)) J) (p 48) 6 v8)) (p 48) 5) - (J (p 31) 5))) (v7 + (x236 (x79 (fun i => p (48 + i)) (x125N_114 p v1 v2 v3 v4 v5 v6 v7 v9 v3.toNatClampNeg (Int32.ofInt 0) (nt_u (x80 (fun i => p (48 + i)) (fun i => p (31 + i)) J) (p 48) 6 v8))))) ((x125N_114 p v1 v2 v3 v4 v5 v6 v7 v9 v3.toNatClampNeg (Int32.ofInt 0) (nt_u (x80 (fun i => p (48 + i)) (fun i => p (31 + i)) J) (p 48) 6 v8)) (p 48) 6) (v9 + (Int32.ofInt 1)) (x125N_114 p v1 v2 v3 v4 v5 v6 v7 v9 v3.toNatClampNeg (Int32.ofInt 0) (nt_u (x80 (fun i => p (48 + i)) (fun i => p (31 + i)) J) (p 48) 6 v8)))
theorem xt125N_85 {X : nt_X} {d : Nat} {M : nt_M} {o : Option Value × nt_M} {p : Nat → Nat} {v1 : Int32} {v2 : Int32} {v3 : Int32} {v4 : Int32} {v5 : Int32} (hp : xs_P M p) (hn : xs_Q M (fun i => p (31 + i))) (hm : xs_Q M (fun i => p (48 + i))) (hk : xs_N M (fun i => p (48 + i))) (h0 : v1 < 0) : ∀ (c : Nat) (v6 : Int32) (v7 : Int32) (v8 : Int32) (v9 : Int32) (v10 : Int32) (J : Nat → Nat → Int32), v2.toInt - v9.toInt ≤ c → nt_rn X d 125 (85, [(0, .ref (p 16)), (1, .int v1), (2, .int v2), (3, .int v3), (4, .int v4), (5, .int v5), (6, .int v6), (7, .int v7), (8, .int v8), (9, .int v9), (10, .int v10)], [], me_w M J) o → o = (some (.int ((x125N_85 p v1 v2 v3 v4 v5 c v6 v7 v8 v9 J).1)), me_w M ((x125N_85 p v1 v2 v3 v4 v5 c v6 v7 v8 v9 J).2)) := by
  intro c
  induction c with
  | zero =>
    intro v6 v7 v8 v9 v10 J hc k
    have k := ly_revb 3 (c' := (if v2 ≤ v9 then 213 else 91, [(0, .ref (p 16)), (1, .int v1), (2, .int v2), (3, .int v3), (4, .int v4), (5, .int v5), (6, .int v6), (7, .int v7), (8, .int v8), (9, .int v9), (10, .int v10)], [], me_w M J)) rfl k
    have h88 : v2 ≤ v9 := lx_end hc
    rw [if_pos h88] at k
    have k := ly_revb 2 (c' := (if v5 = 0 then 218 else 223, [(0, .ref (p 16)), (1, .int v1), (2, .int v2), (3, .int v3), (4, .int v4), (5, .int v5), (6, .int v6), (7, .int v7), (8, .int v8), (9, .int v9), (10, .int v10)], [], me_w M J)) rfl k
    by_cases h215 : v5 = 0
    · rw [if_pos h215] at k
      have k := ly_revb 2 (c' := (225, [(0, .ref (p 16)), (1, .int v1), (2, .int v2), (3, .int v3), (4, .int v4), (5, .int v5), (6, .int v6), (7, .int v7), (8, .int v8), (9, .int v9), (10, .int v10)], [.int v6], me_w M J)) rfl k
      have k := lz_ri rfl (by decide) k
      rw [k, x125N_85, if_pos h215]
    · rw [if_neg h215] at k
      have k := ly_revb 1 (c' := (225, [(0, .ref (p 16)), (1, .int v1), (2, .int v2), (3, .int v3), (4, .int v4), (5, .int v5), (6, .int v6), (7, .int v7), (8, .int v8), (9, .int v9), (10, .int v10)], [.int v7], me_w M J)) rfl k
      have k := lz_ri rfl (by decide) k
      rw [k, x125N_85, if_neg h215]
  | succ c ih =>
    intro v6 v7 v8 v9 v10 J hc k
    have k := ly_revb 3 (c' := (if v2 ≤ v9 then 213 else 91, [(0, .ref (p 16)), (1, .int v1), (2, .int v2), (3, .int v3), (4, .int v4), (5, .int v5), (6, .int v6), (7, .int v7), (8, .int v8), (9, .int v9), (10, .int v10)], [], me_w M J)) rfl k
    by_cases h88 : v2 ≤ v9
    · rw [if_pos h88] at k
      have k := ly_revb 2 (c' := (if v5 = 0 then 218 else 223, [(0, .ref (p 16)), (1, .int v1), (2, .int v2), (3, .int v3), (4, .int v4), (5, .int v5), (6, .int v6), (7, .int v7), (8, .int v8), (9, .int v9), (10, .int v10)], [], me_w M J)) rfl k
      by_cases h215 : v5 = 0
      · rw [if_pos h215] at k
        have k := ly_revb 2 (c' := (225, [(0, .ref (p 16)), (1, .int v1), (2, .int v2), (3, .int v3), (4, .int v4), (5, .int v5), (6, .int v6), (7, .int v7), (8, .int v8), (9, .int v9), (10, .int v10)], [.int v6], me_w M J)) rfl k
        have k := lz_ri rfl (by decide) k
        rw [k, x125N_85, if_pos h88, if_pos h215]
      · rw [if_neg h215] at k
        have k := ly_revb 1 (c' := (225, [(0, .ref (p 16)), (1, .int v1), (2, .int v2), (3, .int v3), (4, .int v4), (5, .int v5), (6, .int v6), (7, .int v7), (8, .int v8), (9, .int v9), (10, .int v10)], [.int v7], me_w M J)) rfl k
        have k := lz_ri rfl (by decide) k
        rw [k, x125N_85, if_pos h88, if_neg h215]
    · rw [if_neg h88] at k
      have k := ly_revb 1 (c' := (92, [(0, .ref (p 16)), (1, .int v1), (2, .int v2), (3, .int v3), (4, .int v4), (5, .int v5), (6, .int v6), (7, .int v7), (8, .int v8), (9, .int v9), (10, .int v10)], [.ref (p 16)], me_w M J)) rfl k
      have k := lz_get (a := (p 16)) (g := 1008) (M := me_w M J) (v := .ref (p 48)) rfl (nt_gfR rfl (hp.1 (16, 8, 48) (by decide))) k
      have k := ly_revb 1 (c' := (96, [(0, .ref (p 16)), (1, .int v1), (2, .int v2), (3, .int v3), (4, .int v4), (5, .int v5), (6, .int v6), (7, .int v7), (8, .int v8), (9, .int v9), (10, .int v10)], [.ref (p 16), .ref (p 48)], me_w M J)) rfl k
      have k := lz_get (a := (p 16)) (g := 1007) (M := me_w M J) (v := .ref (p 31)) rfl (nt_gfR rfl (hp.1 (16, 7, 31) (by decide))) k
      obtain ⟨d1, o1, ed, kc, k⟩ := lz_c (g := 80) (q := 1) (vs := [.ref (p 48), .ref (p 31)]) (rest := []) rfl rfl (by decide) (Or.inr (Or.inl ⟨_, rfl, rfl⟩)) rfl k
      have e1 := xt80 hm hn (xs_d48 hp) hk kc
      subst e1
      have k : nt_rn X _ 125 (102, [(0, .ref (p 16)), (1, .int v1), (2, .int v2), (3, .int v3), (4, .int v4), (5, .int v5), (6, .int v6), (7, .int v7), (8, .int v8), (9, .int v9), (10, .int v10)], [], me_w M (x80 (fun i => p (48 + i)) (fun i => p (31 + i)) J)) _ := k
      have k := ly_revb 1 (c' := (103, [(0, .ref (p 16)), (1, .int v1), (2, .int v2), (3, .int v3), (4, .int v4), (5, .int v5), (6, .int v6), (7, .int v7), (8, .int v8), (9, .int v9), (10, .int v10)], [.ref (p 16)], me_w M (x80 (fun i => p (48 + i)) (fun i => p (31 + i)) J))) rfl k
      have k := lz_get (a := (p 16)) (g := 1008) (M := me_w M (x80 (fun i => p (48 + i)) (fun i => p (31 + i)) J)) (v := .ref (p 48)) rfl (nt_gfR rfl (hp.1 (16, 8, 48) (by decide))) k
      have k := ly_revb 1 (c' := (108, [(0, .ref (p 16)), (1, .int v1), (2, .int v2), (3, .int v3), (4, .int v4), (5, .int v5), (6, .int v6), (7, .int v7), (8, .int v8), (9, .int v9), (10, .int v10)], [.int v8, .ref (p 48)], me_w M (x80 (fun i => p (48 + i)) (fun i => p (31 + i)) J))) rfl k
      have k := me_put rfl (by decide) k
      have k : nt_rn X _ 125 (111, [(0, .ref (p 16)), (1, .int v1), (2, .int v2), (3, .int v3), (4, .int v4), (5, .int v5), (6, .int v6), (7, .int v7), (8, .int v8), (9, .int v9), (10, .int v10)], [], me_w M (nt_u (x80 (fun i => p (48 + i)) (fun i => p (31 + i)) J) (p 48) 6 v8)) _ := k
      have k := ly_revb 2 (c' := (114, [(10, .int (Int32.ofInt 0)), (0, .ref (p 16)), (1, .int v1), (2, .int v2), (3, .int v3), (4, .int v4), (5, .int v5), (6, .int v6), (7, .int v7), (8, .int v8), (9, .int v9)], [], me_w M (nt_u (x80 (fun i => p (48 + i)) (fun i => p (31 + i)) J) (p 48) 6 v8))) rfl k
      have k := nt_rn_w (a := [(10, .int (Int32.ofInt 0)), (0, .ref (p 16)), (1, .int v1), (2, .int v2), (3, .int v3), (4, .int v4), (5, .int v5), (6, .int v6), (7, .int v7), (8, .int v8), (9, .int v9)]) (b := [(0, .ref (p 16)), (1, .int v1), (2, .int v2), (3, .int v3), (4, .int v4), (5, .int v5), (6, .int v6), (7, .int v7), (8, .int v8), (9, .int v9), (10, .int (Int32.ofInt 0))]) ⟨rfl, rfl, rfl, rfl, rfl, rfl, rfl, rfl, rfl, rfl, rfl, trivial⟩ rfl k
      have k := xt125N_114 hp hn hm hk h0  v3.toNatClampNeg (Int32.ofInt 0) (nt_u (x80 (fun i => p (48 + i)) (fun i => p (31 + i)) J) (p 48) 6 v8) (lx_beg (by decide)) k
      obtain ⟨w10, k⟩ := k
      have k : nt_rn X _ 125 (163, [(0, .ref (p 16)), (1, .int v1), (2, .int v2), (3, .int v3), (4, .int v4), (5, .int v5), (6, .int v6), (7, .int v7), (8, .int v8), (9, .int v9), (10, .int w10)], [], me_w M (x125N_114 p v1 v2 v3 v4 v5 v6 v7 v9 v3.toNatClampNeg (Int32.ofInt 0) (nt_u (x80 (fun i => p (48 + i)) (fun i => p (31 + i)) J) (p 48) 6 v8))) _ := k
      have k := ly_revb 1 (c' := (164, [(0, .ref (p 16)), (1, .int v1), (2, .int v2), (3, .int v3), (4, .int v4), (5, .int v5), (6, .int v6), (7, .int v7), (8, .int v8), (9, .int v9), (10, .int w10)], [.ref (p 16)], me_w M (x125N_114 p v1 v2 v3 v4 v5 v6 v7 v9 v3.toNatClampNeg (Int32.ofInt 0) (nt_u (x80 (fun i => p (48 + i)) (fun i => p (31 + i)) J) (p 48) 6 v8)))) rfl k
      have k := lz_get (a := (p 16)) (g := 1008) (M := me_w M (x125N_114 p v1 v2 v3 v4 v5 v6 v7 v9 v3.toNatClampNeg (Int32.ofInt 0) (nt_u (x80 (fun i => p (48 + i)) (fun i => p (31 + i)) J) (p 48) 6 v8))) (v := .ref (p 48)) rfl (nt_gfR rfl (hp.1 (16, 8, 48) (by decide))) k
      have k := lz_get (a := (p 48)) (g := 606) (M := me_w M (x125N_114 p v1 v2 v3 v4 v5 v6 v7 v9 v3.toNatClampNeg (Int32.ofInt 0) (nt_u (x80 (fun i => p (48 + i)) (fun i => p (31 + i)) J) (p 48) 6 v8))) (v := .int ((x125N_114 p v1 v2 v3 v4 v5 v6 v7 v9 v3.toNatClampNeg (Int32.ofInt 0) (nt_u (x80 (fun i => p (48 + i)) (fun i => p (31 + i)) J) (p 48) 6 v8)) (p 48) 6)) rfl (congrArg Value.int (rfl)) k
      have k := ly_revb 3 (c' := (175, [(8, .int ((x125N_114 p v1 v2 v3 v4 v5 v6 v7 v9 v3.toNatClampNeg (Int32.ofInt 0) (nt_u (x80 (fun i => p (48 + i)) (fun i => p (31 + i)) J) (p 48) 6 v8)) (p 48) 6)), (0, .ref (p 16)), (1, .int v1), (2, .int v2), (3, .int v3), (4, .int v4), (5, .int v5), (6, .int v6), (7, .int v7), (9, .int v9), (10, .int w10)], [.ref (p 16), .int v6], me_w M (x125N_114 p v1 v2 v3 v4 v5 v6 v7 v9 v3.toNatClampNeg (Int32.ofInt 0) (nt_u (x80 (fun i => p (48 + i)) (fun i => p (31 + i)) J) (p 48) 6 v8)))) rfl k
      have k := lz_get (a := (p 16)) (g := 1008) (M := me_w M (x125N_114 p v1 v2 v3 v4 v5 v6 v7 v9 v3.toNatClampNeg (Int32.ofInt 0) (nt_u (x80 (fun i => p (48 + i)) (fun i => p (31 + i)) J) (p 48) 6 v8))) (v := .ref (p 48)) rfl (nt_gfR rfl (hp.1 (16, 8, 48) (by decide))) k
      have k := lz_get (a := (p 48)) (g := 605) (M := me_w M (x125N_114 p v1 v2 v3 v4 v5 v6 v7 v9 v3.toNatClampNeg (Int32.ofInt 0) (nt_u (x80 (fun i => p (48 + i)) (fun i => p (31 + i)) J) (p 48) 6 v8))) (v := .int ((x125N_114 p v1 v2 v3 v4 v5 v6 v7 v9 v3.toNatClampNeg (Int32.ofInt 0) (nt_u (x80 (fun i => p (48 + i)) (fun i => p (31 + i)) J) (p 48) 6 v8)) (p 48) 5)) rfl (congrArg Value.int (rfl)) k
      have k := ly_revb 1 (c' := (182, [(8, .int ((x125N_114 p v1 v2 v3 v4 v5 v6 v7 v9 v3.toNatClampNeg (Int32.ofInt 0) (nt_u (x80 (fun i => p (48 + i)) (fun i => p (31 + i)) J) (p 48) 6 v8)) (p 48) 6)), (0, .ref (p 16)), (1, .int v1), (2, .int v2), (3, .int v3), (4, .int v4), (5, .int v5), (6, .int v6), (7, .int v7), (9, .int v9), (10, .int w10)], [.ref (p 16), .int ((x125N_114 p v1 v2 v3 v4 v5 v6 v7 v9 v3.toNatClampNeg (Int32.ofInt 0) (nt_u (x80 (fun i => p (48 + i)) (fun i => p (31 + i)) J) (p 48) 6 v8)) (p 48) 5), .int v6], me_w M (x125N_114 p v1 v2 v3 v4 v5 v6 v7 v9 v3.toNatClampNeg (Int32.ofInt 0) (nt_u (x80 (fun i => p (48 + i)) (fun i => p (31 + i)) J) (p 48) 6 v8)))) rfl k
      have k := lz_get (a := (p 16)) (g := 1007) (M := me_w M (x125N_114 p v1 v2 v3 v4 v5 v6 v7 v9 v3.toNatClampNeg (Int32.ofInt 0) (nt_u (x80 (fun i => p (48 + i)) (fun i => p (31 + i)) J) (p 48) 6 v8))) (v := .ref (p 31)) rfl (nt_gfR rfl (hp.1 (16, 7, 31) (by decide))) k
      have k := lz_get (a := (p 31)) (g := 605) (M := me_w M (x125N_114 p v1 v2 v3 v4 v5 v6 v7 v9 v3.toNatClampNeg (Int32.ofInt 0) (nt_u (x80 (fun i => p (48 + i)) (fun i => p (31 + i)) J) (p 48) 6 v8))) (v := .int (J (p 31) 5)) rfl (congrArg Value.int ((congrFun (x125N_114_frJ _ _ _ (hp.2.1 31 48 (by omega) (by omega) (by decide)) (hp.2.1 31 58 (by omega) (by omega) (by decide)) (hp.2.1 31 59 (by omega) (by omega) (by decide)) (hp.2.1 31 60 (by omega) (by omega) (by decide)) (hp.2.1 31 61 (by omega) (by omega) (by decide)) (hp.2.1 31 63 (by omega) (by omega) (by decide)) (hp.2.1 31 64 (by omega) (by omega) (by decide))) 5).trans ((mu_j (hp.2.1 31 48 (by omega) (by omega) (by decide))).trans (congrFun (x80_frJ  (hp.2.1 31 48 (by omega) (by omega) (by decide)) (hp.2.1 31 49 (by omega) (by omega) (by decide)) (hp.2.1 31 50 (by omega) (by omega) (by decide)) (hp.2.1 31 51 (by omega) (by omega) (by decide)) (hp.2.1 31 52 (by omega) (by omega) (by decide)) (hp.2.1 31 53 (by omega) (by omega) (by decide)) (hp.2.1 31 54 (by omega) (by omega) (by decide)) (hp.2.1 31 55 (by omega) (by omega) (by decide)) (hp.2.1 31 56 (by omega) (by omega) (by decide)) (hp.2.1 31 57 (by omega) (by omega) (by decide)) (hp.2.1 31 58 (by omega) (by omega) (by decide)) (hp.2.1 31 59 (by omega) (by omega) (by decide)) (hp.2.1 31 60 (by omega) (by omega) (by decide)) (hp.2.1 31 61 (by omega) (by omega) (by decide)) (hp.2.1 31 62 (by omega) (by omega) (by decide)) (hp.2.1 31 63 (by omega) (by omega) (by decide)) (hp.2.1 31 64 (by omega) (by omega) (by decide))) 5)))) k
      have k := ly_revb 5 (c' := (195, [(6, .int (v6 + (((x125N_114 p v1 v2 v3 v4 v5 v6 v7 v9 v3.toNatClampNeg (Int32.ofInt 0) (nt_u (x80 (fun i => p (48 + i)) (fun i => p (31 + i)) J) (p 48) 6 v8)) (p 48) 5) - (J (p 31) 5)))), (8, .int ((x125N_114 p v1 v2 v3 v4 v5 v6 v7 v9 v3.toNatClampNeg (Int32.ofInt 0) (nt_u (x80 (fun i => p (48 + i)) (fun i => p (31 + i)) J) (p 48) 6 v8)) (p 48) 6)), (0, .ref (p 16)), (1, .int v1), (2, .int v2), (3, .int v3), (4, .int v4), (5, .int v5), (7, .int v7), (9, .int v9), (10, .int w10)], [.ref (p 16), .int v7], me_w M (x125N_114 p v1 v2 v3 v4 v5 v6 v7 v9 v3.toNatClampNeg (Int32.ofInt 0) (nt_u (x80 (fun i => p (48 + i)) (fun i => p (31 + i)) J) (p 48) 6 v8)))) rfl k
      have k := lz_get (a := (p 16)) (g := 1008) (M := me_w M (x125N_114 p v1 v2 v3 v4 v5 v6 v7 v9 v3.toNatClampNeg (Int32.ofInt 0) (nt_u (x80 (fun i => p (48 + i)) (fun i => p (31 + i)) J) (p 48) 6 v8))) (v := .ref (p 48)) rfl (nt_gfR rfl (hp.1 (16, 8, 48) (by decide))) k
      obtain ⟨d1, o1, ed, kc, k⟩ := lz_c (g := 79) (q := 1) (vs := [.ref (p 48)]) (rest := [.int v7]) rfl rfl (by decide) (Or.inr (Or.inl ⟨_, rfl, rfl⟩)) rfl k
      have e1 := xt79 hm kc
      subst e1
      have k : nt_rn X _ 125 (201, [(6, .int (v6 + (((x125N_114 p v1 v2 v3 v4 v5 v6 v7 v9 v3.toNatClampNeg (Int32.ofInt 0) (nt_u (x80 (fun i => p (48 + i)) (fun i => p (31 + i)) J) (p 48) 6 v8)) (p 48) 5) - (J (p 31) 5)))), (8, .int ((x125N_114 p v1 v2 v3 v4 v5 v6 v7 v9 v3.toNatClampNeg (Int32.ofInt 0) (nt_u (x80 (fun i => p (48 + i)) (fun i => p (31 + i)) J) (p 48) 6 v8)) (p 48) 6)), (0, .ref (p 16)), (1, .int v1), (2, .int v2), (3, .int v3), (4, .int v4), (5, .int v5), (7, .int v7), (9, .int v9), (10, .int w10)], [.int (x79 (fun i => p (48 + i)) (x125N_114 p v1 v2 v3 v4 v5 v6 v7 v9 v3.toNatClampNeg (Int32.ofInt 0) (nt_u (x80 (fun i => p (48 + i)) (fun i => p (31 + i)) J) (p 48) 6 v8))), .int v7], me_w M (x125N_114 p v1 v2 v3 v4 v5 v6 v7 v9 v3.toNatClampNeg (Int32.ofInt 0) (nt_u (x80 (fun i => p (48 + i)) (fun i => p (31 + i)) J) (p 48) 6 v8))) _ := k
      obtain ⟨d1, o1, ed, kc, k⟩ := lz_c (g := 236) (q := 0) (vs := [.int (x79 (fun i => p (48 + i)) (x125N_114 p v1 v2 v3 v4 v5 v6 v7 v9 v3.toNatClampNeg (Int32.ofInt 0) (nt_u (x80 (fun i => p (48 + i)) (fun i => p (31 + i)) J) (p 48) 6 v8)))]) (rest := [.int v7]) rfl rfl (by decide) (Or.inl ⟨_, rfl, rfl⟩) rfl k
      have e1 := xt236  kc
      subst e1
      have k : nt_rn X _ 125 (204, [(6, .int (v6 + (((x125N_114 p v1 v2 v3 v4 v5 v6 v7 v9 v3.toNatClampNeg (Int32.ofInt 0) (nt_u (x80 (fun i => p (48 + i)) (fun i => p (31 + i)) J) (p 48) 6 v8)) (p 48) 5) - (J (p 31) 5)))), (8, .int ((x125N_114 p v1 v2 v3 v4 v5 v6 v7 v9 v3.toNatClampNeg (Int32.ofInt 0) (nt_u (x80 (fun i => p (48 + i)) (fun i => p (31 + i)) J) (p 48) 6 v8)) (p 48) 6)), (0, .ref (p 16)), (1, .int v1), (2, .int v2), (3, .int v3), (4, .int v4), (5, .int v5), (7, .int v7), (9, .int v9), (10, .int w10)], [.int (x236 (x79 (fun i => p (48 + i)) (x125N_114 p v1 v2 v3 v4 v5 v6 v7 v9 v3.toNatClampNeg (Int32.ofInt 0) (nt_u (x80 (fun i => p (48 + i)) (fun i => p (31 + i)) J) (p 48) 6 v8)))), .int v7], me_w M (x125N_114 p v1 v2 v3 v4 v5 v6 v7 v9 v3.toNatClampNeg (Int32.ofInt 0) (nt_u (x80 (fun i => p (48 + i)) (fun i => p (31 + i)) J) (p 48) 6 v8))) _ := k
      have k := ly_revb 4 (c' := (85, [(9, .int (v9 + (Int32.ofInt 1))), (7, .int (v7 + (x236 (x79 (fun i => p (48 + i)) (x125N_114 p v1 v2 v3 v4 v5 v6 v7 v9 v3.toNatClampNeg (Int32.ofInt 0) (nt_u (x80 (fun i => p (48 + i)) (fun i => p (31 + i)) J) (p 48) 6 v8)))))), (6, .int (v6 + (((x125N_114 p v1 v2 v3 v4 v5 v6 v7 v9 v3.toNatClampNeg (Int32.ofInt 0) (nt_u (x80 (fun i => p (48 + i)) (fun i => p (31 + i)) J) (p 48) 6 v8)) (p 48) 5) - (J (p 31) 5)))), (8, .int ((x125N_114 p v1 v2 v3 v4 v5 v6 v7 v9 v3.toNatClampNeg (Int32.ofInt 0) (nt_u (x80 (fun i => p (48 + i)) (fun i => p (31 + i)) J) (p 48) 6 v8)) (p 48) 6)), (0, .ref (p 16)), (1, .int v1), (2, .int v2), (3, .int v3), (4, .int v4), (5, .int v5), (10, .int w10)], [], me_w M (x125N_114 p v1 v2 v3 v4 v5 v6 v7 v9 v3.toNatClampNeg (Int32.ofInt 0) (nt_u (x80 (fun i => p (48 + i)) (fun i => p (31 + i)) J) (p 48) 6 v8)))) rfl k
      have k := nt_rn_w (a := [(9, .int (v9 + (Int32.ofInt 1))), (7, .int (v7 + (x236 (x79 (fun i => p (48 + i)) (x125N_114 p v1 v2 v3 v4 v5 v6 v7 v9 v3.toNatClampNeg (Int32.ofInt 0) (nt_u (x80 (fun i => p (48 + i)) (fun i => p (31 + i)) J) (p 48) 6 v8)))))), (6, .int (v6 + (((x125N_114 p v1 v2 v3 v4 v5 v6 v7 v9 v3.toNatClampNeg (Int32.ofInt 0) (nt_u (x80 (fun i => p (48 + i)) (fun i => p (31 + i)) J) (p 48) 6 v8)) (p 48) 5) - (J (p 31) 5)))), (8, .int ((x125N_114 p v1 v2 v3 v4 v5 v6 v7 v9 v3.toNatClampNeg (Int32.ofInt 0) (nt_u (x80 (fun i => p (48 + i)) (fun i => p (31 + i)) J) (p 48) 6 v8)) (p 48) 6)), (0, .ref (p 16)), (1, .int v1), (2, .int v2), (3, .int v3), (4, .int v4), (5, .int v5), (10, .int w10)]) (b := [(0, .ref (p 16)), (1, .int v1), (2, .int v2), (3, .int v3), (4, .int v4), (5, .int v5), (6, .int (v6 + (((x125N_114 p v1 v2 v3 v4 v5 v6 v7 v9 v3.toNatClampNeg (Int32.ofInt 0) (nt_u (x80 (fun i => p (48 + i)) (fun i => p (31 + i)) J) (p 48) 6 v8)) (p 48) 5) - (J (p 31) 5)))), (7, .int (v7 + (x236 (x79 (fun i => p (48 + i)) (x125N_114 p v1 v2 v3 v4 v5 v6 v7 v9 v3.toNatClampNeg (Int32.ofInt 0) (nt_u (x80 (fun i => p (48 + i)) (fun i => p (31 + i)) J) (p 48) 6 v8)))))), (8, .int ((x125N_114 p v1 v2 v3 v4 v5 v6 v7 v9 v3.toNatClampNeg (Int32.ofInt 0) (nt_u (x80 (fun i => p (48 + i)) (fun i => p (31 + i)) J) (p 48) 6 v8)) (p 48) 6)), (9, .int (v9 + (Int32.ofInt 1))), (10, .int w10)]) ⟨rfl, rfl, rfl, rfl, rfl, rfl, rfl, rfl, rfl, rfl, rfl, trivial⟩ rfl k
      have k := ih (v6 + (((x125N_114 p v1 v2 v3 v4 v5 v6 v7 v9 v3.toNatClampNeg (Int32.ofInt 0) (nt_u (x80 (fun i => p (48 + i)) (fun i => p (31 + i)) J) (p 48) 6 v8)) (p 48) 5) - (J (p 31) 5))) (v7 + (x236 (x79 (fun i => p (48 + i)) (x125N_114 p v1 v2 v3 v4 v5 v6 v7 v9 v3.toNatClampNeg (Int32.ofInt 0) (nt_u (x80 (fun i => p (48 + i)) (fun i => p (31 + i)) J) (p 48) 6 v8))))) ((x125N_114 p v1 v2 v3 v4 v5 v6 v7 v9 v3.toNatClampNeg (Int32.ofInt 0) (nt_u (x80 (fun i => p (48 + i)) (fun i => p (31 + i)) J) (p 48) 6 v8)) (p 48) 6) (v9 + (Int32.ofInt 1)) w10 (x125N_114 p v1 v2 v3 v4 v5 v6 v7 v9 v3.toNatClampNeg (Int32.ofInt 0) (nt_u (x80 (fun i => p (48 + i)) (fun i => p (31 + i)) J) (p 48) 6 v8)) (lx_dec h88 hc) k
      rw [k, x125N_85, if_neg h88]
theorem x125N_85_rule {p : Nat → Nat} {v1 : Int32} {v2 : Int32} {v3 : Int32} {v4 : Int32} {v5 : Int32} {I : Nat → Int32 → Int32 → Int32 → Int32 → (Nat → Nat → Int32) → Prop} {Q : Int32 × (Nat → Nat → Int32) → Prop} (h0 : ∀ (v6 : Int32) (v7 : Int32) (v8 : Int32) (v9 : Int32) (J : Nat → Nat → Int32), I 0 v6 v7 v8 v9 J → Q (if v5 = 0 then (v6, J)
    else (v7, J))) (h1 : ∀ (c : Nat) (v6 : Int32) (v7 : Int32) (v8 : Int32) (v9 : Int32) (J : Nat → Nat → Int32), I (c + 1) v6 v7 v8 v9 J →
    if v2 ≤ v9 then if v5 = 0 then (Q (v6, J))
      else (Q (v7, J))
    else (I c (v6 + (((x125N_114 p v1 v2 v3 v4 v5 v6 v7 v9 v3.toNatClampNeg (Int32.ofInt 0) (nt_u (x80 (fun i => p (48 + i)) (fun i => p (31 + i)) J) (p 48) 6 v8)) (p 48) 5) - (J (p 31) 5))) (v7 + (x236 (x79 (fun i => p (48 + i)) (x125N_114 p v1 v2 v3 v4 v5 v6 v7 v9 v3.toNatClampNeg (Int32.ofInt 0) (nt_u (x80 (fun i => p (48 + i)) (fun i => p (31 + i)) J) (p 48) 6 v8))))) ((x125N_114 p v1 v2 v3 v4 v5 v6 v7 v9 v3.toNatClampNeg (Int32.ofInt 0) (nt_u (x80 (fun i => p (48 + i)) (fun i => p (31 + i)) J) (p 48) 6 v8)) (p 48) 6) (v9 + (Int32.ofInt 1)) (x125N_114 p v1 v2 v3 v4 v5 v6 v7 v9 v3.toNatClampNeg (Int32.ofInt 0) (nt_u (x80 (fun i => p (48 + i)) (fun i => p (31 + i)) J) (p 48) 6 v8)))) : ∀ (c : Nat) (v6 : Int32) (v7 : Int32) (v8 : Int32) (v9 : Int32) (J : Nat → Nat → Int32), I c v6 v7 v8 v9 J → Q (x125N_85 p v1 v2 v3 v4 v5 c v6 v7 v8 v9 J) := by
  intro c
  induction c with
  | zero =>
    intro v6 v7 v8 v9 J hi
    rw [x125N_85]
    exact h0 v6 v7 v8 v9 J hi
  | succ c ih =>
    intro v6 v7 v8 v9 J hi
    have hi := h1 c v6 v7 v8 v9 J hi
    rw [x125N_85]
    by_cases h : v2 ≤ v9
    · rw [if_pos h] at hi ⊢
      by_cases h : v5 = 0
      · rw [if_pos h] at hi ⊢
        exact hi
      · rw [if_neg h] at hi ⊢
        exact hi
    · rw [if_neg h] at hi ⊢
      exact ih _ _ _ _ _ hi
def x125N (p : Nat → Nat) (v1 : Int32) (v2 : Int32) (v3 : Int32) (v4 : Int32) (v5 : Int32) (J : Nat → Nat → Int32) : Int32 × (Nat → Nat → Int32) := if (J (p 31) 1) = 0 then (Int32.ofInt (-1), J)
  else if (x111 p v1 J) = 0 then (Int32.ofInt (-1), J)
    else if v2 < (Int32.ofInt 1) then (Int32.ofInt (-1), J)
      else if (Int32.ofInt 20) < v2 then (Int32.ofInt (-1), J)
        else if v3 < (Int32.ofInt 1) then (Int32.ofInt (-1), J)
          else if v3 ≤ (Int32.ofInt 100) then if v4 < 0 then (Int32.ofInt (-1), J)
              else if (Int32.ofInt 100) < v4 then (Int32.ofInt (-1), J)
                else if v5 < 0 then (Int32.ofInt (-1), J)
                  else if v5 ≤ (Int32.ofInt 1) then (x125N_85 p v1 v2 v3 v4 v5 v2.toNatClampNeg (Int32.ofInt 0) (Int32.ofInt 0) (J (p 31) 6) (Int32.ofInt 0) J)
                    else (Int32.ofInt (-1), J)
            else (Int32.ofInt (-1), J)
theorem xt125N {X : nt_X} {d : Nat} {M : nt_M} {o : Option Value × nt_M} {p : Nat → Nat} {v1 : Int32} {v2 : Int32} {v3 : Int32} {v4 : Int32} {v5 : Int32} {J : Nat → Nat → Int32} (hp : xs_P M p) (hn : xs_Q M (fun i => p (31 + i))) (hm : xs_Q M (fun i => p (48 + i))) (hk : xs_N M (fun i => p (48 + i))) (h0 : v1 < 0) (k : nt_ev X d 125 [.ref (p 16), .int v1, .int v2, .int v3, .int v4, .int v5] (me_w M J) o) : o = (some (.int ((x125N p v1 v2 v3 v4 v5 J).1)), me_w M ((x125N p v1 v2 v3 v4 v5 J).2)) := by
  have k : nt_rn X d 125 (0, [(0, .ref (p 16)), (1, .int v1), (2, .int v2), (3, .int v3), (4, .int v4), (5, .int v5)], [], me_w M J) o := k
  have k := ly_revb 1 (c' := (1, [(0, .ref (p 16)), (1, .int v1), (2, .int v2), (3, .int v3), (4, .int v4), (5, .int v5)], [.ref (p 16)], me_w M J)) rfl k
  have k := lz_get (a := (p 16)) (g := 1007) (M := me_w M J) (v := .ref (p 31)) rfl (nt_gfR rfl (hp.1 (16, 7, 31) (by decide))) k
  have k := lz_get (a := (p 31)) (g := 601) (M := me_w M J) (v := .int (J (p 31) 1)) rfl (congrArg Value.int (rfl)) k
  have k := ly_revb 1 (c' := (if (J (p 31) 1) = 0 then 40 else 10, [(0, .ref (p 16)), (1, .int v1), (2, .int v2), (3, .int v3), (4, .int v4), (5, .int v5)], [], me_w M J)) rfl k
  by_cases h7 : (J (p 31) 1) = 0
  · rw [if_pos h7] at k
    have k := ly_revb 1 (c' := (41, [(0, .ref (p 16)), (1, .int v1), (2, .int v2), (3, .int v3), (4, .int v4), (5, .int v5)], [.int (Int32.ofInt (-1))], me_w M J)) rfl k
    have k := lz_ri rfl (by decide) k
    rw [k, x125N, if_pos h7]
  · rw [if_neg h7] at k
    have k := ly_revb 2 (c' := (12, [(0, .ref (p 16)), (1, .int v1), (2, .int v2), (3, .int v3), (4, .int v4), (5, .int v5)], [.int v1, .ref (p 16)], me_w M J)) rfl k
    obtain ⟨d1, o1, ed, kc, k⟩ := lz_c (g := 111) (q := 1) (vs := [.ref (p 16), .int v1]) (rest := []) rfl rfl (by decide) (Or.inr (Or.inl ⟨_, rfl, rfl⟩)) rfl k
    have e1 := xt111 hp kc
    subst e1
    have k : nt_rn X _ 125 (15, [(0, .ref (p 16)), (1, .int v1), (2, .int v2), (3, .int v3), (4, .int v4), (5, .int v5)], [.int (x111 p v1 J)], me_w M J) _ := k
    have k := ly_revb 1 (c' := (if (x111 p v1 J) = 0 then 40 else 18, [(0, .ref (p 16)), (1, .int v1), (2, .int v2), (3, .int v3), (4, .int v4), (5, .int v5)], [], me_w M J)) rfl k
    by_cases h15 : (x111 p v1 J) = 0
    · rw [if_pos h15] at k
      have k := ly_revb 1 (c' := (41, [(0, .ref (p 16)), (1, .int v1), (2, .int v2), (3, .int v3), (4, .int v4), (5, .int v5)], [.int (Int32.ofInt (-1))], me_w M J)) rfl k
      have k := lz_ri rfl (by decide) k
      rw [k, x125N, if_neg h7, if_pos h15]
    · rw [if_neg h15] at k
      have k := ly_revb 3 (c' := (if v2 < (Int32.ofInt 1) then 40 else 23, [(0, .ref (p 16)), (1, .int v1), (2, .int v2), (3, .int v3), (4, .int v4), (5, .int v5)], [], me_w M J)) rfl k
      by_cases h20 : v2 < (Int32.ofInt 1)
      · rw [if_pos h20] at k
        have k := ly_revb 1 (c' := (41, [(0, .ref (p 16)), (1, .int v1), (2, .int v2), (3, .int v3), (4, .int v4), (5, .int v5)], [.int (Int32.ofInt (-1))], me_w M J)) rfl k
        have k := lz_ri rfl (by decide) k
        rw [k, x125N, if_neg h7, if_neg h15, if_pos h20]
      · rw [if_neg h20] at k
        have k := ly_revb 3 (c' := (if (Int32.ofInt 20) < v2 then 40 else 29, [(0, .ref (p 16)), (1, .int v1), (2, .int v2), (3, .int v3), (4, .int v4), (5, .int v5)], [], me_w M J)) rfl k
        by_cases h26 : (Int32.ofInt 20) < v2
        · rw [if_pos h26] at k
          have k := ly_revb 1 (c' := (41, [(0, .ref (p 16)), (1, .int v1), (2, .int v2), (3, .int v3), (4, .int v4), (5, .int v5)], [.int (Int32.ofInt (-1))], me_w M J)) rfl k
          have k := lz_ri rfl (by decide) k
          rw [k, x125N, if_neg h7, if_neg h15, if_neg h20, if_pos h26]
        · rw [if_neg h26] at k
          have k := ly_revb 3 (c' := (if v3 < (Int32.ofInt 1) then 40 else 34, [(0, .ref (p 16)), (1, .int v1), (2, .int v2), (3, .int v3), (4, .int v4), (5, .int v5)], [], me_w M J)) rfl k
          by_cases h31 : v3 < (Int32.ofInt 1)
          · rw [if_pos h31] at k
            have k := ly_revb 1 (c' := (41, [(0, .ref (p 16)), (1, .int v1), (2, .int v2), (3, .int v3), (4, .int v4), (5, .int v5)], [.int (Int32.ofInt (-1))], me_w M J)) rfl k
            have k := lz_ri rfl (by decide) k
            rw [k, x125N, if_neg h7, if_neg h15, if_neg h20, if_neg h26, if_pos h31]
          · rw [if_neg h31] at k
            have k := ly_revb 3 (c' := (if v3 ≤ (Int32.ofInt 100) then 42 else 40, [(0, .ref (p 16)), (1, .int v1), (2, .int v2), (3, .int v3), (4, .int v4), (5, .int v5)], [], me_w M J)) rfl k
            by_cases h37 : v3 ≤ (Int32.ofInt 100)
            · rw [if_pos h37] at k
              have k := ly_revb 2 (c' := (if v4 < 0 then 65 else 47, [(0, .ref (p 16)), (1, .int v1), (2, .int v2), (3, .int v3), (4, .int v4), (5, .int v5)], [], me_w M J)) rfl k
              by_cases h44 : v4 < 0
              · rw [if_pos h44] at k
                have k := ly_revb 1 (c' := (66, [(0, .ref (p 16)), (1, .int v1), (2, .int v2), (3, .int v3), (4, .int v4), (5, .int v5)], [.int (Int32.ofInt (-1))], me_w M J)) rfl k
                have k := lz_ri rfl (by decide) k
                rw [k, x125N, if_neg h7, if_neg h15, if_neg h20, if_neg h26, if_neg h31, if_pos h37, if_pos h44]
              · rw [if_neg h44] at k
                have k := ly_revb 3 (c' := (if (Int32.ofInt 100) < v4 then 65 else 54, [(0, .ref (p 16)), (1, .int v1), (2, .int v2), (3, .int v3), (4, .int v4), (5, .int v5)], [], me_w M J)) rfl k
                by_cases h51 : (Int32.ofInt 100) < v4
                · rw [if_pos h51] at k
                  have k := ly_revb 1 (c' := (66, [(0, .ref (p 16)), (1, .int v1), (2, .int v2), (3, .int v3), (4, .int v4), (5, .int v5)], [.int (Int32.ofInt (-1))], me_w M J)) rfl k
                  have k := lz_ri rfl (by decide) k
                  rw [k, x125N, if_neg h7, if_neg h15, if_neg h20, if_neg h26, if_neg h31, if_pos h37, if_neg h44, if_pos h51]
                · rw [if_neg h51] at k
                  have k := ly_revb 2 (c' := (if v5 < 0 then 65 else 59, [(0, .ref (p 16)), (1, .int v1), (2, .int v2), (3, .int v3), (4, .int v4), (5, .int v5)], [], me_w M J)) rfl k
                  by_cases h56 : v5 < 0
                  · rw [if_pos h56] at k
                    have k := ly_revb 1 (c' := (66, [(0, .ref (p 16)), (1, .int v1), (2, .int v2), (3, .int v3), (4, .int v4), (5, .int v5)], [.int (Int32.ofInt (-1))], me_w M J)) rfl k
                    have k := lz_ri rfl (by decide) k
                    rw [k, x125N, if_neg h7, if_neg h15, if_neg h20, if_neg h26, if_neg h31, if_pos h37, if_neg h44, if_neg h51, if_pos h56]
                  · rw [if_neg h56] at k
                    have k := ly_revb 3 (c' := (if v5 ≤ (Int32.ofInt 1) then 67 else 65, [(0, .ref (p 16)), (1, .int v1), (2, .int v2), (3, .int v3), (4, .int v4), (5, .int v5)], [], me_w M J)) rfl k
                    by_cases h62 : v5 ≤ (Int32.ofInt 1)
                    · rw [if_pos h62] at k
                      have k := ly_revb 5 (c' := (74, [(7, .int (Int32.ofInt 0)), (6, .int (Int32.ofInt 0)), (0, .ref (p 16)), (1, .int v1), (2, .int v2), (3, .int v3), (4, .int v4), (5, .int v5)], [.ref (p 16)], me_w M J)) rfl k
                      have k := lz_get (a := (p 16)) (g := 1007) (M := me_w M J) (v := .ref (p 31)) rfl (nt_gfR rfl (hp.1 (16, 7, 31) (by decide))) k
                      have k := lz_get (a := (p 31)) (g := 606) (M := me_w M J) (v := .int (J (p 31) 6)) rfl (congrArg Value.int (rfl)) k
                      have k := ly_revb 3 (c' := (85, [(9, .int (Int32.ofInt 0)), (8, .int (J (p 31) 6)), (7, .int (Int32.ofInt 0)), (6, .int (Int32.ofInt 0)), (0, .ref (p 16)), (1, .int v1), (2, .int v2), (3, .int v3), (4, .int v4), (5, .int v5)], [], me_w M J)) rfl k
                      have k := nt_rn_w (a := [(9, .int (Int32.ofInt 0)), (8, .int (J (p 31) 6)), (7, .int (Int32.ofInt 0)), (6, .int (Int32.ofInt 0)), (0, .ref (p 16)), (1, .int v1), (2, .int v2), (3, .int v3), (4, .int v4), (5, .int v5)]) (b := [(0, .ref (p 16)), (1, .int v1), (2, .int v2), (3, .int v3), (4, .int v4), (5, .int v5), (6, .int (Int32.ofInt 0)), (7, .int (Int32.ofInt 0)), (8, .int (J (p 31) 6)), (9, .int (Int32.ofInt 0)), (10, .int (Int32.ofInt 0))]) ⟨rfl, rfl, rfl, rfl, rfl, rfl, rfl, rfl, rfl, rfl, trivial⟩ rfl k
                      have k := xt125N_85 hp hn hm hk h0  v2.toNatClampNeg (Int32.ofInt 0) (Int32.ofInt 0) (J (p 31) 6) (Int32.ofInt 0) (Int32.ofInt 0) J (lx_beg (by decide)) k
                      rw [k, x125N, if_neg h7, if_neg h15, if_neg h20, if_neg h26, if_neg h31, if_pos h37, if_neg h44, if_neg h51, if_neg h56, if_pos h62]
                    · rw [if_neg h62] at k
                      have k := ly_revb 1 (c' := (66, [(0, .ref (p 16)), (1, .int v1), (2, .int v2), (3, .int v3), (4, .int v4), (5, .int v5)], [.int (Int32.ofInt (-1))], me_w M J)) rfl k
                      have k := lz_ri rfl (by decide) k
                      rw [k, x125N, if_neg h7, if_neg h15, if_neg h20, if_neg h26, if_neg h31, if_pos h37, if_neg h44, if_neg h51, if_neg h56, if_neg h62]
            · rw [if_neg h37] at k
              have k := ly_revb 1 (c' := (41, [(0, .ref (p 16)), (1, .int v1), (2, .int v2), (3, .int v3), (4, .int v4), (5, .int v5)], [.int (Int32.ofInt (-1))], me_w M J)) rfl k
              have k := lz_ri rfl (by decide) k
              rw [k, x125N, if_neg h7, if_neg h15, if_neg h20, if_neg h26, if_neg h31, if_neg h37]
theorem x125N_85_frJ {p : Nat → Nat} {v1 : Int32} {v2 : Int32} {v3 : Int32} {v4 : Int32} {v5 : Int32} {b : Nat} : ∀ (c : Nat) (v6 : Int32) (v7 : Int32) (v8 : Int32) (v9 : Int32) (J : Nat → Nat → Int32), b ≠ p 48 → b ≠ p 49 → b ≠ p 50 → b ≠ p 51 → b ≠ p 52 → b ≠ p 53 → b ≠ p 54 → b ≠ p 55 → b ≠ p 56 → b ≠ p 57 → b ≠ p 58 → b ≠ p 59 → b ≠ p 60 → b ≠ p 61 → b ≠ p 62 → b ≠ p 63 → b ≠ p 64 → (x125N_85 p v1 v2 v3 v4 v5 c v6 v7 v8 v9 J).2 b = J b := by
  intro c
  induction c with
  | zero =>
    intro v6 v7 v8 v9 J n0 n1 n2 n3 n4 n5 n6 n7 n8 n9 n10 n11 n12 n13 n14 n15 n16
    rw [x125N_85]
    by_cases h : v5 = 0
    · rw [if_pos h]
      all_goals first | (dsimp only; exact (show J b = J b from rfl)) | exact (show J b = J b from rfl)
    · rw [if_neg h]
      all_goals first | (dsimp only; exact (show J b = J b from rfl)) | exact (show J b = J b from rfl)
  | succ c ih =>
    intro v6 v7 v8 v9 J n0 n1 n2 n3 n4 n5 n6 n7 n8 n9 n10 n11 n12 n13 n14 n15 n16
    rw [x125N_85]
    by_cases h : v2 ≤ v9
    · rw [if_pos h]
      by_cases h : v5 = 0
      · rw [if_pos h]
        all_goals first | (dsimp only; exact (show J b = J b from rfl)) | exact (show J b = J b from rfl)
      · rw [if_neg h]
        all_goals first | (dsimp only; exact (show J b = J b from rfl)) | exact (show J b = J b from rfl)
    · rw [if_neg h]
      exact (ih _ _ _ _ _ n0 n1 n2 n3 n4 n5 n6 n7 n8 n9 n10 n11 n12 n13 n14 n15 n16).trans ((x125N_114_frJ _ _ _ n0 n10 n11 n12 n13 n15 n16).trans ((mu_o n0).trans (x80_frJ  n0 n1 n2 n3 n4 n5 n6 n7 n8 n9 n10 n11 n12 n13 n14 n15 n16)))
theorem x125N_frJ {p : Nat → Nat} {v1 : Int32} {v2 : Int32} {v3 : Int32} {v4 : Int32} {v5 : Int32} {J : Nat → Nat → Int32} {b : Nat} (n0 : b ≠ p 48) (n1 : b ≠ p 49) (n2 : b ≠ p 50) (n3 : b ≠ p 51) (n4 : b ≠ p 52) (n5 : b ≠ p 53) (n6 : b ≠ p 54) (n7 : b ≠ p 55) (n8 : b ≠ p 56) (n9 : b ≠ p 57) (n10 : b ≠ p 58) (n11 : b ≠ p 59) (n12 : b ≠ p 60) (n13 : b ≠ p 61) (n14 : b ≠ p 62) (n15 : b ≠ p 63) (n16 : b ≠ p 64) : (x125N p v1 v2 v3 v4 v5 J).2 b = J b := by
  unfold x125N
  by_cases h : (J (p 31) 1) = 0
  · rw [if_pos h]
    all_goals first | (dsimp only; exact (show J b = J b from rfl)) | exact (show J b = J b from rfl)
  · rw [if_neg h]
    by_cases h : (x111 p v1 J) = 0
    · rw [if_pos h]
      all_goals first | (dsimp only; exact (show J b = J b from rfl)) | exact (show J b = J b from rfl)
    · rw [if_neg h]
      by_cases h : v2 < (Int32.ofInt 1)
      · rw [if_pos h]
        all_goals first | (dsimp only; exact (show J b = J b from rfl)) | exact (show J b = J b from rfl)
      · rw [if_neg h]
        by_cases h : (Int32.ofInt 20) < v2
        · rw [if_pos h]
          all_goals first | (dsimp only; exact (show J b = J b from rfl)) | exact (show J b = J b from rfl)
        · rw [if_neg h]
          by_cases h : v3 < (Int32.ofInt 1)
          · rw [if_pos h]
            all_goals first | (dsimp only; exact (show J b = J b from rfl)) | exact (show J b = J b from rfl)
          · rw [if_neg h]
            by_cases h : v3 ≤ (Int32.ofInt 100)
            · rw [if_pos h]
              by_cases h : v4 < 0
              · rw [if_pos h]
                all_goals first | (dsimp only; exact (show J b = J b from rfl)) | exact (show J b = J b from rfl)
              · rw [if_neg h]
                by_cases h : (Int32.ofInt 100) < v4
                · rw [if_pos h]
                  all_goals first | (dsimp only; exact (show J b = J b from rfl)) | exact (show J b = J b from rfl)
                · rw [if_neg h]
                  by_cases h : v5 < 0
                  · rw [if_pos h]
                    all_goals first | (dsimp only; exact (show J b = J b from rfl)) | exact (show J b = J b from rfl)
                  · rw [if_neg h]
                    by_cases h : v5 ≤ (Int32.ofInt 1)
                    · rw [if_pos h]
                      exact (x125N_85_frJ _ _ _ _ _ _ n0 n1 n2 n3 n4 n5 n6 n7 n8 n9 n10 n11 n12 n13 n14 n15 n16).trans (rfl)
                    · rw [if_neg h]
                      all_goals first | (dsimp only; exact (show J b = J b from rfl)) | exact (show J b = J b from rfl)
            · rw [if_neg h]
              all_goals first | (dsimp only; exact (show J b = J b from rfl)) | exact (show J b = J b from rfl)
end
section
/-! calls of one state: everything kept -/
theorem ly_fr_tr {pl : Nat → Nat} {M M1 M2 : nt_M} (h1 : ly_fr 66 pl M M1) (h2 : ly_fr 66 pl M1 M2) : ly_fr 66 pl M M2 := by
  obtain ⟨⟨a1, a2, a3, a4⟩, a5, a6⟩ := h1
  obtain ⟨⟨b1, b2, b3, b4⟩, b5, b6⟩ := h2
  exact ⟨⟨b1.trans a1, b2.trans a2, b3.trans a3, b4.trans a4⟩, fun a ha => ⟨fun j => ((b5 a ha).1 j).trans ((a5 a ha).1 j), fun j => ((b5 a ha).2 j).trans ((a5 a ha).2 j)⟩, fun g j hg => (b6 g j hg).trans (a6 g j hg)⟩
theorem zz_5 {P : Nat → Prop} (h : ∀ g, g < 31 → g ≠ 0 → g ≠ 4 → g ≠ 7 → g ≠ 25 → P g) : ∀ g, g = 14 ∨ g = 1 ∨ g = 2 ∨ g = 3 ∨ g = 16 → P g := by
  intro g hg
  exact h g (by omega) (by omega) (by omega) (by omega) (by omega)
theorem zz_x {pl : Nat → Nat} {v : Nat → Int} {M : nt_M} (hB : ly_B pl v M) (hx : v 0 = v 1) : nt_I M (pl 31) 6 = nt_I M (pl 4) 9 := Int32.toInt_inj.mp (by rw [ly_cell (g := 31) (j := 6) (u := 1) hB (by decide) (List.mem_of_getElem? (i := 1) rfl), ly_cell (g := 4) (j := 9) (u := 0) hB (by decide) (List.mem_of_getElem? (i := 0) rfl)]; exact hx.symm)
theorem zz_move2 {X : nt_X} {pl : Nat → Nat} {v v1 mk xi : Nat → Int} {rc : Int} {M M1 M2 : nt_M} {y1 y2 a b : Int32} (hB : ly_B pl v M) (hS : ly_S pl mk xi rc M) (hB1 : ly_B pl v1 M1) (f1 : ly_fr 66 pl M M1) (f2 : ly_fr 66 pl M1 M2) (e1 : nt_ev X 99 109 [.ref (pl 16), .int a, .int b] M (some (.int y1), M1)) (e2 : nt_ev X 99 181 [.ref (pl 0), .int a, .int b] M1 (some (.int y2), M2)) (hZ : zz_E pl M) : y1 = y2 ∧ zz_E pl M2 := by
  have ne := zz_ne hB
  have c1 := xt109 (p := pl) (J := nt_I M) (zz_P hB) (zz_Qn hB) e1
  obtain ⟨y1e, M1e⟩ := lq_out c1
  have i1 : nt_I M1 = (x109 pl a b (nt_I M)).2 := by rw [M1e]; rfl
  have c2 := xt181 (p := pl) (J := nt_I M1) (zz_P hB1) e2
  obtain ⟨y2e, M2e⟩ := lq_out c2
  have i2 : nt_I M2 = (x181 pl a b (nt_I M1)).2 := by rw [M2e]; rfl
  have r1 : ∀ g, g < 66 → g ≠ 31 → g ≠ 45 → nt_I M1 (pl g) = nt_I M (pl g) := fun g hg z0 z1 => by
    rw [i1]
    exact x109_frJ (ne g 31 hg (by omega) z0) (ne g 45 hg (by omega) z1)
  have r2 : ∀ g, g < 66 → g ≠ 4 → nt_I M2 (pl g) = nt_I M1 (pl g) := fun g hg h => by
    rw [i2]
    exact x181_frJ (ne g 4 hg (by omega) h)
  have e4 : nt_I M1 (pl 4) = nt_I M (pl 4) := r1 4 (by omega) (by decide) (by decide)
  obtain ⟨⟨hR, hW, hd, hz⟩, hI⟩ := hZ
  have key := zq_109 (p := pl) (v1 := a) (v2 := b) (Jc := nt_I M) (Jr := nt_I M1) (zz_X hB) (by rw [e4]; exact hR) (by rw [e4]; exact hW)
  obtain ⟨k1, k2, k3, k4⟩ := key
  rw [← i1, ← i2] at k2
  rw [← i2] at k3 k4
  have ag : ∀ i, i < 6 → nt_I M2 (pl 4) i = nt_I M (pl 4) i := fun i hi => by rw [k4 i hi, e4]
  refine ⟨by rw [y1e, y2e]; exact k1, ⟨zR_aj (fun i hi => r2 (31 + i) (by omega) (by omega)) k2, ?_, ?_, ?_⟩, zz_Ifr hS (ly_fr_tr f1 f2) (zz_5 (fun g h1 h2 h3 h4 h5 => (r2 g (by omega) h3).trans (r1 g (by omega) (by omega) (by omega)))) hI⟩
  · rw [ag 4 (by omega)]
    exact k3
  · rw [ag 4 (by omega)]
    exact hd
  · intro c
    rw [ag 0 (by omega)] at c
    have h177 : x177 pl a (nt_I M1) = 0 := by
      unfold x177
      by_cases q1 : a < 0
      · rw [if_pos q1]
        rfl
      · rw [if_neg q1]
        by_cases q2 : nt_I M1 (pl 4) 2 ≤ a
        · rw [if_pos q2]
          rfl
        · exfalso
          rw [e4] at q2
          have b := zn_b hW.w
          have q1' : ¬ a.toInt < 0 := fun h => q1 (Int32.lt_iff_toInt_lt.mpr h)
          have x := zx b.2.2.2.2.2.2.1 (by omega) q2
          have kn := hW.a.kn _ x.1
          rw [c, show (0 : Int32).toInt = 0 from by decide] at kn
          omega
    have u : (x181 pl a b (nt_I M1)).2 = nt_I M1 := by
      unfold x181
      rw [if_pos h177]
    rw [i2, u, e4]
    exact hz c
theorem zz_seed2 {X : nt_X} {pl : Nat → Nat} {v v1 mk xi : Nat → Int} {rc : Int} {M M1 M2 : nt_M} {y1 y2 a : Int32} (hB : ly_B pl v M) (hS : ly_S pl mk xi rc M) (hB1 : ly_B pl v1 M1) (f1 : ly_fr 66 pl M M1) (f2 : ly_fr 66 pl M1 M2) (hx : v 0 = v 1) (e1 : nt_ev X 99 124 [.ref (pl 16), .int a] M (some (.int y1), M1)) (e2 : nt_ev X 99 230 [.ref (pl 0), .int a] M1 (some (.int y2), M2)) (hZ : zz_E pl M) : y1 = y2 ∧ zz_E pl M2 := by
  have ne := zz_ne hB
  have c1 := xt124 (p := pl) (J := nt_I M) (zz_P hB) (zz_Qn hB) e1
  obtain ⟨y1e, M1e⟩ := lq_out c1
  have i1 : nt_I M1 = (x124 pl a (nt_I M)).2 := by rw [M1e]; rfl
  have c2 := xt230 (p := pl) (J := nt_I M1) (zz_P hB1) e2
  obtain ⟨y2e, M2e⟩ := lq_out c2
  have i2 : nt_I M2 = (x230 pl a (nt_I M1)).2 := by rw [M2e]; rfl
  have r1 : ∀ g, g < 66 → g ≠ 31 → nt_I M1 (pl g) = nt_I M (pl g) := fun g hg z0 => by
    rw [i1]
    exact x124_frJ (ne g 31 hg (by omega) z0)
  have r2 : ∀ g, g < 66 → g ≠ 4 → nt_I M2 (pl g) = nt_I M1 (pl g) := fun g hg h => by
    rw [i2]
    exact x230_frJ (ne g 4 hg (by omega) h)
  have e4 : nt_I M1 (pl 4) = nt_I M (pl 4) := r1 4 (by omega) (by decide)
  obtain ⟨⟨hR, hW, hd, hz⟩, hI⟩ := hZ
  have key := zq_124 (p := pl) (v1 := a) (Jc := nt_I M) (Jr := nt_I M1) (zz_X hB) (by rw [e4]; exact hR) (by rw [e4]; exact hW) (by rw [e4]; exact zz_x hB hx)
  obtain ⟨k1, k2, k3, k4⟩ := key
  rw [← i1, ← i2] at k2
  rw [← i2] at k3 k4
  have ag : ∀ i, i < 9 → nt_I M2 (pl 4) i = nt_I M (pl 4) i := fun i hi => by rw [k4 i hi, e4]
  refine ⟨by rw [y1e, y2e]; exact k1, ⟨zR_aj (fun i hi => r2 (31 + i) (by omega) (by omega)) k2, ?_, ?_, ?_⟩, zz_Ifr hS (ly_fr_tr f1 f2) (zz_5 (fun g h1 h2 h3 h4 h5 => (r2 g (by omega) h3).trans (r1 g (by omega) (by omega)))) hI⟩
  · rw [ag 4 (by omega)]
    exact k3
  · rw [ag 4 (by omega)]
    exact hd
  · rw [ag 0 (by omega), ag 5 (by omega), ag 6 (by omega)]
    exact hz
/-- days, both sides -/
def zqD (p : Nat → Nat) (sp : Nat) (Jc Jr : Nat → Nat → Int32) (rc rr : Int32 × (Nat → Nat → Int32) × (Nat → Nat → Int64)) : Prop := rc.1 = rr.1 ∧ zR (fun i => p (31 + i)) rc.2.1 (rr.2.1 (p 4)) ∧ zW (rr.2.1 (p 4)) (rr.2.1 (p 4) 4).toInt ∧ (rr.2.1 (p 4) 4).toInt ≤ 200 ∧ zKp p (fun i => p (31 + i)) sp Jc Jr rc.2.1 rr.2.1
theorem z_i1 {x : Int32} : x < Int32.ofInt 1 ↔ x.toInt < 1 := by
  rw [Int32.lt_iff_toInt_lt, show (Int32.ofInt 1).toInt = 1 from by decide]
theorem z_i0 {x : Int32} : x < 0 ↔ x.toInt < 0 := by
  rw [Int32.lt_iff_toInt_lt, show (0 : Int32).toInt = 0 from by decide]
theorem z_i100 {x : Int32} : Int32.ofInt 100 < x ↔ 100 < x.toInt := by
  rw [Int32.lt_iff_toInt_lt, show (Int32.ofInt 100).toInt = 100 from by decide]
theorem z_j1 : (Int64.ofNat 1).toInt = 1 := by decide
theorem z_j0 : (Int64.ofNat 0).toInt = 0 := by decide
theorem z_j100 : (100 : Int64).toInt = 100 := by decide
theorem zq_110 {p : Nat → Nat} {v1 v2 : Int32} {sp ln T : Nat} {Jc Jr : Nat → Nat → Int32} {Lc Lr : Nat → Nat → Int64} (hsq : ∀ i, i < 17 → sp ≠ p (31 + i)) (ht : v1.toInt = (T : Nat)) (hQ : zRQ p sp ln T Jc Jr) (X : zX p (fun i => p (31 + i))) (hR : zR (fun i => p (31 + i)) Jc (Jr (p 4))) (hW : zW (Jr (p 4)) (Jr (p 4) 4).toInt) (hd : (Jr (p 4) 4).toInt ≤ 200) (h4 : Jc (p 16) 4 = Jr (p 0) 2) (h0 : 0 ≤ (Jr (p 0) 2).toInt) : zqD p sp Jc Jr (x110 p sp ln v1 v2 Jc Lc) (x186 p v1 v2 Jr Lr) := by
  have may := zmay (q := fun i => p (31 + i)) (v1 := v1) hR hW.w h4 h0
  have e4 : Jc (p 31) 2 = Jr (p 4) 4 := zR_4 hR
  have d0 := hW.d.d4
  have same : ∀ y : Int32, zqD p sp Jc Jr (y, Jc, Lc) (y, Jr, Lr) := fun y => ⟨rfl, hR, hW, hd, zKp_r⟩
  unfold x110 x186
  by_cases hm : x187 p v1 Jr = 0
  · rw [if_pos hm]
    by_cases a : Jc (p 31) 1 = 0
    · rw [if_pos a]
      exact same _
    · rw [if_neg a, if_pos (Classical.byContradiction fun c => may.mp ⟨a, c⟩ hm)]
      exact same _
  · obtain ⟨a, b⟩ := may.mpr hm
    have a : ¬ Jc (p 31) 1 = 0 := a
    rw [if_neg hm, if_neg a, if_neg b, z_145, z_j1, z_j100, e4]
    by_cases c1 : v2.toInt < 1
    · rw [if_pos (z_i1.mpr c1), if_pos (show v2.toInt < 1 ∨ 100 < v2.toInt from Or.inl c1), if_pos (show Int32.ofInt 0 = 0 from rfl)]
      exact same _
    · rw [if_neg (fun h => c1 (z_i1.mp h))]
      by_cases c2 : 100 < v2.toInt
      · rw [if_pos (z_i100.mpr c2), if_pos (show v2.toInt < 1 ∨ 100 < v2.toInt from Or.inr c2), if_pos (show Int32.ofInt 0 = 0 from rfl)]
        exact same _
      · rw [if_neg (fun h => c2 (z_i100.mp h)), if_neg (show ¬ (v2.toInt < 1 ∨ 100 < v2.toInt) from by omega), if_neg (show ¬ Int32.ofInt 1 = 0 from by decide)]
        by_cases c3 : Jr (p 4) 4 + v2 ≤ Int32.ofInt 200
        · rw [if_pos c3, if_pos c3]
          have c3' := Int32.le_iff_toInt_le.mp c3
          rw [Int32.toInt_add, show (Int32.ofInt 200).toInt = 200 from by decide, Int.bmod_eq_of_le (by omega) (by omega)] at c3'
          have z0 : (Int32.ofInt 0).toInt = 0 := by decide
          have cl : v2.toInt - (Int32.ofInt 0).toInt ≤ (v2.toNatClampNeg : Nat) := by
            rw [zn_t, z0]
            omega
          have key := zdays_l hsq ht X v2.toNatClampNeg (Int32.ofInt 0) Jc Jr Lc Lr (by decide) cl (by omega) (by omega) hR hW hQ
          exact key
        · rw [if_neg c3, if_neg c3]
          exact same _
theorem zq_110N {p : Nat → Nat} {v1 v2 : Int32} {Jc Jr : Nat → Nat → Int32} {Lc Lr : Nat → Nat → Int64} (hv : v1 < 0) (X : zX p (fun i => p (31 + i))) (hR : zR (fun i => p (31 + i)) Jc (Jr (p 4))) (hW : zW (Jr (p 4)) (Jr (p 4) 4).toInt) (hd : (Jr (p 4) 4).toInt ≤ 200) (h4 : Jc (p 16) 4 = Jr (p 0) 2) (h0 : 0 ≤ (Jr (p 0) 2).toInt) : zqD p 0 Jc Jr ((x110N p v1 v2 Jc).1, (x110N p v1 v2 Jc).2, Lc) (x186 p v1 v2 Jr Lr) := by
  have may := zmay (q := fun i => p (31 + i)) (v1 := v1) hR hW.w h4 h0
  have e4 : Jc (p 31) 2 = Jr (p 4) 4 := zR_4 hR
  have d0 := hW.d.d4
  have same : ∀ y : Int32, zqD p 0 Jc Jr (y, Jc, Lc) (y, Jr, Lr) := fun y => ⟨rfl, hR, hW, hd, zKp_r⟩
  unfold x110N x186
  by_cases hm : x187 p v1 Jr = 0
  · rw [if_pos hm]
    by_cases a : Jc (p 31) 1 = 0
    · rw [if_pos a]
      exact same _
    · rw [if_neg a, if_pos (Classical.byContradiction fun c => may.mp ⟨a, c⟩ hm)]
      exact same _
  · obtain ⟨a, b⟩ := may.mpr hm
    have a : ¬ Jc (p 31) 1 = 0 := a
    rw [if_neg hm, if_neg a, if_neg b, z_145, z_j1, z_j100, e4]
    by_cases c1 : v2.toInt < 1
    · rw [if_pos (z_i1.mpr c1), if_pos (show v2.toInt < 1 ∨ 100 < v2.toInt from Or.inl c1), if_pos (show Int32.ofInt 0 = 0 from rfl)]
      exact same _
    · rw [if_neg (fun h => c1 (z_i1.mp h))]
      by_cases c2 : 100 < v2.toInt
      · rw [if_pos (z_i100.mpr c2), if_pos (show v2.toInt < 1 ∨ 100 < v2.toInt from Or.inr c2), if_pos (show Int32.ofInt 0 = 0 from rfl)]
        exact same _
      · rw [if_neg (fun h => c2 (z_i100.mp h)), if_neg (show ¬ (v2.toInt < 1 ∨ 100 < v2.toInt) from by omega), if_neg (show ¬ Int32.ofInt 1 = 0 from by decide)]
        by_cases c3 : Jr (p 4) 4 + v2 ≤ Int32.ofInt 200
        · rw [if_pos c3, if_pos c3]
          have c3' := Int32.le_iff_toInt_le.mp c3
          rw [Int32.toInt_add, show (Int32.ofInt 200).toInt = 200 from by decide, Int.bmod_eq_of_le (by omega) (by omega)] at c3'
          have z0 : (Int32.ofInt 0).toInt = 0 := by decide
          have cl : v2.toInt - (Int32.ofInt 0).toInt ≤ (v2.toNatClampNeg : Nat) := by
            rw [zn_t, z0]
            omega
          have ev : v1 = Int32.ofInt (-1) := by
            unfold x111 at b
            by_cases g : v1 < Int32.ofInt (-1)
            · rw [if_pos g] at b
              exact absurd rfl b
            · have g1 : ¬ v1.toInt < (Int32.ofInt (-1)).toInt := fun h => g (Int32.lt_iff_toInt_lt.mpr h)
              have g2 := z_i0.mp hv
              rw [show (Int32.ofInt (-1)).toInt = -1 from by decide] at g1
              exact Int32.toInt_inj.mp (by rw [show (Int32.ofInt (-1)).toInt = -1 from by decide]; omega)
          have key := zdaysN_l (v1 := v1) X v2.toNatClampNeg (Int32.ofInt 0) Jc Jr Lr (by decide) cl (by omega) (by omega) hR hW
          rw [← ev] at key
          exact key
        · rw [if_neg c3, if_neg c3]
          exact same _
/-- a rule that is there -/
theorem zz_rule {pl : Nat → Nat} {v mk xi : Nat → Int} {M : nt_M} {a : Int32} (hB : ly_B pl v M) (hS : ly_S pl mk xi (v 2) M) (hZ : zz_E pl M) (h0 : ¬ a < 0) (h1 : ¬ nt_I M (pl 16) 4 ≤ a) : ∃ b, nt_R M (pl 23) a.toNatClampNeg = some b ∧ 66 ≤ b ∧ xs_S M pl b (b + 1) (nt_l M (b + 1)) ∧ a.toInt = (a.toNatClampNeg : Nat) ∧ zRQ pl (b + 1) (nt_l M (b + 1)) a.toNatClampNeg (nt_I M) (nt_I M) := by
  have v2 := ly_vI hB
  have b2 := (ly_ob hB (2, 0, 6) (List.mem_of_getElem? (i := 2) rfl))
  dsimp only at b2
  have h0' : ¬ a.toInt < 0 := fun h => h0 (z_i0.mpr h)
  have h1' : ¬ (nt_I M (pl 16) 4).toInt ≤ a.toInt := fun h => h1 (Int32.le_iff_toInt_le.mpr h)
  have ea : a.toInt = (a.toNatClampNeg : Nat) := z_tn (by omega)
  have hS0 := hS
  obtain ⟨_, _, T, _, hT⟩ := hS
  obtain ⟨b, c1, c2, c3, _, _, c4⟩ := hT a.toNatClampNeg (by omega)
  have hs : nt_n M ≤ nt_sp := hB.2.1.1
  refine ⟨b, c1, c2, ⟨c4.2, fun i hi e => ?_, by omega, rfl⟩, ea, (hZ.2.2 _ b (by omega) c1).2⟩
  have := hS0.1.1 i hi
  omega
theorem zz_days2 {X : nt_X} {pl : Nat → Nat} {v mk xi : Nat → Int} {M M1 M2 : nt_M} {y1 y2 a b : Int32} (hB : ly_B pl v M) (hS : ly_S pl mk xi (v 2) M) (hE : nt_I M (pl 16) 4 = nt_I M (pl 0) 2) (hB1 : ly_B pl v M1) (f1 : ly_fr 66 pl M M1) (f2 : ly_fr 66 pl M1 M2) (e1 : nt_ev X 99 110 [.ref (pl 16), .int a, .int b] M (some (.int y1), M1)) (e2 : nt_ev X 99 186 [.ref (pl 0), .int a, .int b] M1 (some (.int y2), M2)) (hZ : zz_E pl M) : y1 = y2 ∧ zz_E pl M2 := by
  have ne := zz_ne hB
  have hZ0 := hZ
  obtain ⟨⟨hR, hW, hd, hz⟩, hI⟩ := hZ
  have h0 : 0 ≤ (nt_I M (pl 0) 2).toInt := ((hB.2.1.2 0 _ (show ly_E.2.1[0]? = some (11, 0, 0, 9) from rfl)).2.2.2.2 2).1
  have c2 := xt186 (p := pl) (J := nt_I M1) (L := nt_J M1) (zz_P hB1) (zz_W hB1) e2
  obtain ⟨y2e, M2e⟩ := lq_out c2
  have i2 : nt_I M2 = (x186 pl a b (nt_I M1) (nt_J M1)).2.1 := by rw [M2e]; rfl
  have fin : ∀ (sp : Nat) (rc : Int32 × (Nat → Nat → Int32) × (Nat → Nat → Int64)), y1 = rc.1 → nt_I M1 = rc.2.1 → (nt_I M1 (pl 32) = nt_I M (pl 32)) → zqD pl sp (nt_I M) (nt_I M1) rc (x186 pl a b (nt_I M1) (nt_J M1)) → y1 = y2 ∧ zz_E pl M2 := by
    intro sp rc ey i1 e32 hq
    obtain ⟨k1, k2, k3, k4, k5⟩ := hq
    rw [← i1, ← i2] at k2
    rw [← i2] at k3 k4
    rw [← i1, ← i2] at k5
    have r2 : ∀ g, g < 66 → g ≠ 0 → g ≠ 4 → nt_I M2 (pl g) = nt_I M1 (pl g) := fun g hg z0 z4 => k5.r _ (ne g 0 hg (by omega) z0) (ne g 4 hg (by omega) z4)
    have r1 : ∀ g, g < 31 → g ≠ 25 → nt_I M1 (pl g) = nt_I M (pl g) := fun g hg z => k5.c _ (ne g 25 (by omega) (by omega) z) (fun i hi => ne g (31 + i) (by omega) (by omega) (by omega))
    have R2 : zR (fun i => pl (31 + i)) (nt_I M2) (nt_I M2 (pl 4)) := zR_aj (fun i hi => r2 (31 + i) (by omega) (by omega) (by omega)) k2
    refine ⟨by rw [ey, y2e]; exact k1, ⟨R2, k3, k4, ?_⟩, zz_Ifr hS (ly_fr_tr f1 f2) (zz_5 (fun g q1 q2 q3 q4 q5 => (r2 g (by omega) q2 q3).trans (r1 g (by omega) q5))) hI⟩
    intro c
    have e0 : nt_I M2 (pl 4) 0 = nt_I M (pl 4) 0 := by
      have z1 := zR_n R2 (i := 0) (by omega)
      have z2 := zR_n hR (i := 0) (by omega)
      have z1 : nt_I M2 (pl 32) 0 = nt_I M2 (pl 4) 0 := z1
      have z2 : nt_I M (pl 32) 0 = nt_I M (pl 4) 0 := z2
      rw [← z1, r2 32 (by omega) (by decide) (by decide), e32, z2]
    have c0 := c
    rw [e0] at c0
    have hm : x187 pl a (nt_I M1) = 0 := by
      unfold x187 x188
      rw [r1 4 (by omega) (by decide), c0, if_pos (show (0 : Int32) ≤ 0 from by decide)]
      rfl
    have u : (x186 pl a b (nt_I M1) (nt_J M1)).2.1 = nt_I M1 := by
      unfold x186
      rw [if_pos hm]
    rw [i2, u, r1 4 (by omega) (by decide)]
    exact hz c0
  by_cases hn : a < 0
  · have c1 := xt110N (p := pl) (J := nt_I M) (zz_P hB) (zz_Qn hB) hn e1
    obtain ⟨y1e, M1e⟩ := lq_out c1
    have i1 : nt_I M1 = (x110N pl a b (nt_I M)).2 := by rw [M1e]; rfl
    have e4 : nt_I M1 (pl 4) = nt_I M (pl 4) := by rw [i1]; exact x110N_frJ (ne 4 31 (by omega) (by omega) (by decide)) (ne 4 41 (by omega) (by omega) (by decide)) (ne 4 42 (by omega) (by omega) (by decide)) (ne 4 43 (by omega) (by omega) (by decide)) (ne 4 44 (by omega) (by omega) (by decide)) (ne 4 46 (by omega) (by omega) (by decide)) (ne 4 47 (by omega) (by omega) (by decide))
    have e0 : nt_I M1 (pl 0) = nt_I M (pl 0) := by rw [i1]; exact x110N_frJ (ne 0 31 (by omega) (by omega) (by decide)) (ne 0 41 (by omega) (by omega) (by decide)) (ne 0 42 (by omega) (by omega) (by decide)) (ne 0 43 (by omega) (by omega) (by decide)) (ne 0 44 (by omega) (by omega) (by decide)) (ne 0 46 (by omega) (by omega) (by decide)) (ne 0 47 (by omega) (by omega) (by decide))
    exact fin 0 ((x110N pl a b (nt_I M)).1, (x110N pl a b (nt_I M)).2, nt_J M) y1e i1 (by rw [i1]; exact x110N_frJ (ne 32 31 (by omega) (by omega) (by decide)) (ne 32 41 (by omega) (by omega) (by decide)) (ne 32 42 (by omega) (by omega) (by decide)) (ne 32 43 (by omega) (by omega) (by decide)) (ne 32 44 (by omega) (by omega) (by decide)) (ne 32 46 (by omega) (by omega) (by decide)) (ne 32 47 (by omega) (by omega) (by decide))) (zq_110N hn (zz_X hB) (by rw [e4]; exact hR) (by rw [e4]; exact hW) (by rw [e4]; exact hd) (by rw [e0]; exact hE) (by rw [e0]; exact h0))
  · by_cases h1 : nt_I M (pl 16) 4 ≤ a
    · have hx : x111 pl a (nt_I M) = Int32.ofInt 0 := by
        unfold x111
        rw [if_pos h1]
        split <;> rfl
      have c1 := xt110H (p := pl) (J := nt_I M) (zz_P hB) (zz_Qn hB) hx e1
      obtain ⟨y1e, M1e⟩ := lq_out c1
      have M1e : M1 = M := M1e
      have hm : x187 pl a (nt_I M1) = 0 := by
        have may := zmay (q := fun i => pl (31 + i)) (v1 := a) hR hW.w hE h0
        rw [M1e]
        exact Classical.byContradiction fun c => (may.mpr c).2 hx
      have u : x186 pl a b (nt_I M1) (nt_J M1) = (Int32.ofInt (-1), nt_I M1, nt_J M1) := by
        unfold x186
        rw [if_pos hm]
      have y1m : y1 = Int32.ofInt (-1) := by
        rw [y1e]
        unfold x110H
        split <;> rfl
      rw [u] at M2e y2e
      have M2e : M2 = M1 := M2e
      refine ⟨by rw [y1m, y2e], ?_⟩
      rw [M2e, M1e]
      exact hZ0
    · obtain ⟨rb, q1, q2, q3, q4, q5⟩ := zz_rule hB hS hZ0 hn h1
      have c1 := xt110 (p := pl) (J := nt_I M) (L := nt_J M) (zz_P hB) (zz_Qn hB) q3 hn q1 h1 e1
      obtain ⟨y1e, M1e⟩ := lq_out c1
      have i1 : nt_I M1 = (x110 pl (rb + 1) (nt_l M (rb + 1)) a b (nt_I M) (nt_J M)).2.1 := by rw [M1e]; rfl
      have e4 : nt_I M1 (pl 4) = nt_I M (pl 4) := by rw [i1]; exact x110_frJ (ne 4 25 (by omega) (by omega) (by decide)) (ne 4 31 (by omega) (by omega) (by decide)) (ne 4 41 (by omega) (by omega) (by decide)) (ne 4 42 (by omega) (by omega) (by decide)) (ne 4 43 (by omega) (by omega) (by decide)) (ne 4 44 (by omega) (by omega) (by decide)) (ne 4 45 (by omega) (by omega) (by decide)) (ne 4 46 (by omega) (by omega) (by decide)) (ne 4 47 (by omega) (by omega) (by decide))
      have e0 : nt_I M1 (pl 0) = nt_I M (pl 0) := by rw [i1]; exact x110_frJ (ne 0 25 (by omega) (by omega) (by decide)) (ne 0 31 (by omega) (by omega) (by decide)) (ne 0 41 (by omega) (by omega) (by decide)) (ne 0 42 (by omega) (by omega) (by decide)) (ne 0 43 (by omega) (by omega) (by decide)) (ne 0 44 (by omega) (by omega) (by decide)) (ne 0 45 (by omega) (by omega) (by decide)) (ne 0 46 (by omega) (by omega) (by decide)) (ne 0 47 (by omega) (by omega) (by decide))
      have s1 : nt_I M1 (pl 1) = nt_I M (pl 1) := by rw [i1]; exact x110_frJ (ne 1 25 (by omega) (by omega) (by decide)) (ne 1 31 (by omega) (by omega) (by decide)) (ne 1 41 (by omega) (by omega) (by decide)) (ne 1 42 (by omega) (by omega) (by decide)) (ne 1 43 (by omega) (by omega) (by decide)) (ne 1 44 (by omega) (by omega) (by decide)) (ne 1 45 (by omega) (by omega) (by decide)) (ne 1 46 (by omega) (by omega) (by decide)) (ne 1 47 (by omega) (by omega) (by decide))
      have s2 : nt_I M1 (pl 2) = nt_I M (pl 2) := by rw [i1]; exact x110_frJ (ne 2 25 (by omega) (by omega) (by decide)) (ne 2 31 (by omega) (by omega) (by decide)) (ne 2 41 (by omega) (by omega) (by decide)) (ne 2 42 (by omega) (by omega) (by decide)) (ne 2 43 (by omega) (by omega) (by decide)) (ne 2 44 (by omega) (by omega) (by decide)) (ne 2 45 (by omega) (by omega) (by decide)) (ne 2 46 (by omega) (by omega) (by decide)) (ne 2 47 (by omega) (by omega) (by decide))
      have s3 : nt_I M1 (pl 3) = nt_I M (pl 3) := by rw [i1]; exact x110_frJ (ne 3 25 (by omega) (by omega) (by decide)) (ne 3 31 (by omega) (by omega) (by decide)) (ne 3 41 (by omega) (by omega) (by decide)) (ne 3 42 (by omega) (by omega) (by decide)) (ne 3 43 (by omega) (by omega) (by decide)) (ne 3 44 (by omega) (by omega) (by decide)) (ne 3 45 (by omega) (by omega) (by decide)) (ne 3 46 (by omega) (by omega) (by decide)) (ne 3 47 (by omega) (by omega) (by decide))
      exact fin (rb + 1) _ y1e i1 (by rw [i1]; exact x110_frJ (ne 32 25 (by omega) (by omega) (by decide)) (ne 32 31 (by omega) (by omega) (by decide)) (ne 32 41 (by omega) (by omega) (by decide)) (ne 32 42 (by omega) (by omega) (by decide)) (ne 32 43 (by omega) (by omega) (by decide)) (ne 32 44 (by omega) (by omega) (by decide)) (ne 32 45 (by omega) (by omega) (by decide)) (ne 32 46 (by omega) (by omega) (by decide)) (ne 32 47 (by omega) (by omega) (by decide))) (zq_110 (fun i hi => q3.2.1 (31 + i) (by omega)) q4 (zRQ_ag q5 rfl s1 s2 s3) (zz_X hB) (by rw [e4]; exact hR) (by rw [e4]; exact hW) (by rw [e4]; exact hd) (by rw [e0]; exact hE) (by rw [e0]; exact h0))
/-- what is kept is put back -/
theorem zb_226 {p : Nat → Nat} {v1 v2 v3 : Int32} {J : Nat → Nat → Int32} {L : Nat → Nat → Int64} (hp : zpd p) {j : Nat} (hj : j < 212) : (x226 p v1 v2 v3 J L).2.1 (p 4) j = J (p 4) j := by
  have n47 : p 4 ≠ p 7 := hp 4 7 (by omega) (by omega) (by omega)
  have n74 : p 7 ≠ p 4 := hp 7 4 (by omega) (by omega) (by omega)
  have n70 : p 7 ≠ p 0 := hp 7 0 (by omega) (by omega) (by omega)
  unfold x226
  split
  · rfl
  · split
    · rfl
    · split
      · rfl
      · rw [← zkp (J := J) n47 hj]
        refine x226_41_rule (I := fun _ _ J1 _ => J1 (p 7) = x227 p J (p 7)) (Q := fun r => r.2.1 (p 4) j = x227 p J (p 7) j) ?_ ?_ _ _ _ _ rfl
        · intro v4 J1 L1 h
          have fin : ∀ y : Int32, ((y, x229 p J1, L1) : Int32 × (Nat → Nat → Int32) × (Nat → Nat → Int64)).2.1 (p 4) j = x227 p J (p 7) j := fun y => by
            dsimp only
            rw [(zpb n74).1 j hj, h]
          split
          · exact fin _
          · split
            · exact fin _
            · exact fin _
        · intro c v4 J1 L1 h
          have fin : ∀ y : Int32, ((y, x229 p J1, L1) : Int32 × (Nat → Nat → Int32) × (Nat → Nat → Int64)).2.1 (p 4) j = x227 p J (p 7) j := fun y => by
            dsimp only
            rw [(zpb n74).1 j hj, h]
          split
          · split
            · exact fin _
            · split
              · exact fin _
              · exact fin _
          · rw [x190_frJ n70 n74]
            exact h
theorem zb_231 {p : Nat → Nat} {v1 v2 v3 v4 v5 : Int32} {J : Nat → Nat → Int32} {L : Nat → Nat → Int64} (hp : zpd p) {j : Nat} (hj : j < 212) : (x231 p v1 v2 v3 v4 v5 J L).2.1 (p 4) j = J (p 4) j := by
  have n47 : p 4 ≠ p 7 := hp 4 7 (by omega) (by omega) (by omega)
  have n74 : p 7 ≠ p 4 := hp 7 4 (by omega) (by omega) (by omega)
  have n70 : p 7 ≠ p 0 := hp 7 0 (by omega) (by omega) (by omega)
  unfold x231
  split
  · rfl
  · split
    · rfl
    · split
      · rfl
      · split
        · rfl
        · split
          · rfl
          · refine x231_78_rule (I := fun _ _ _ _ J1 _ => J1 (p 7) = x227 p J (p 7) ∧ J1 (p 4) j = J (p 4) j) (Q := fun r => r.2.1 (p 4) j = J (p 4) j) ?_ ?_ _ _ _ _ _ _ ⟨rfl, by rw [x227_frJ n47]⟩
            · intro v6 v8 v9 J1 L1 h
              exact h.2
            · intro c v6 v8 v9 J1 L1 h
              have st : ∀ J2 : Nat → Nat → Int32, J2 (p 7) = J1 (p 7) → x229 p J2 (p 7) = x227 p J (p 7) ∧ x229 p J2 (p 4) j = J (p 4) j := fun J2 e => by
                refine ⟨by rw [x229_frJ n74, e, h.1], ?_⟩
                rw [(zpb n74).1 j hj, e, h.1, zkp n47 hj]
              split
              · exact h.2
              · split
                · exact st _ (x231_87_frJ _ _ _ _ _ n70 n74)
                · exact st _ (x231_87_frJ _ _ _ _ _ n70 n74)
theorem zz_aheadK {X : nt_X} {pl : Nat → Nat} {v mk xi : Nat → Int} {M M1 M2 : nt_M} {y1 y2 a b c : Int32} (hB : ly_B pl v M) (hS : ly_S pl mk xi (v 2) M) (hB1 : ly_B pl v M1) (f1 : ly_fr 66 pl M M1) (f2 : ly_fr 66 pl M1 M2) (e1 : nt_ev X 99 123 [.ref (pl 16), .int a, .int b, .int c] M (some (.int y1), M1)) (e2 : nt_ev X 99 226 [.ref (pl 0), .int a, .int b, .int c] M1 (some (.int y2), M2)) (hZ : zz_E pl M) : zz_E pl M2 := by
  have ne := zz_ne hB
  have c2 := xt226 (p := pl) (J := nt_I M1) (L := nt_J M1) (zz_P hB1) (zz_W hB1) e2
  have M2e := (lq_out c2).2
  have i2 : nt_I M2 = (x226 pl a b c (nt_I M1) (nt_J M1)).2.1 := by rw [M2e]; rfl
  have r1 : ∀ g, g < 48 → g ≠ 25 → nt_I M1 (pl g) = nt_I M (pl g) := by
    intro g hg z
    by_cases hn : a < 0
    · have c1 := xt123N (p := pl) (J := nt_I M) (zz_P hB) (zz_Qn hB) (zz_Qm hB) (zz_Nm hB) hn e1
      rw [(lq_out c1).2]
      exact x123N_frJ (ne g 48 (by omega) (by omega) (by omega)) (ne g 49 (by omega) (by omega) (by omega)) (ne g 50 (by omega) (by omega) (by omega)) (ne g 51 (by omega) (by omega) (by omega)) (ne g 52 (by omega) (by omega) (by omega)) (ne g 53 (by omega) (by omega) (by omega)) (ne g 54 (by omega) (by omega) (by omega)) (ne g 55 (by omega) (by omega) (by omega)) (ne g 56 (by omega) (by omega) (by omega)) (ne g 57 (by omega) (by omega) (by omega)) (ne g 58 (by omega) (by omega) (by omega)) (ne g 59 (by omega) (by omega) (by omega)) (ne g 60 (by omega) (by omega) (by omega)) (ne g 61 (by omega) (by omega) (by omega)) (ne g 62 (by omega) (by omega) (by omega)) (ne g 63 (by omega) (by omega) (by omega)) (ne g 64 (by omega) (by omega) (by omega))
    · by_cases h1 : nt_I M (pl 16) 4 ≤ a
      · have hx : x111 pl a (nt_I M) = Int32.ofInt 0 := by
          unfold x111
          rw [if_pos h1]
          split <;> rfl
        have c1 := xt123H (p := pl) (J := nt_I M) (zz_P hB) (zz_Qn hB) hx e1
        rw [(lq_out c1).2]
        rfl
      · obtain ⟨rb, q1, q2, q3, q4, q5⟩ := zz_rule hB hS hZ hn h1
        have c1 := xt123 (p := pl) (J := nt_I M) (L := nt_J M) (zz_P hB) (zz_Qn hB) (zz_Qm hB) (zz_Nm hB) q3 hn q1 h1 e1
        rw [(lq_out c1).2]
        exact x123_frJ (ne g 25 (by omega) (by omega) (by omega)) (ne g 48 (by omega) (by omega) (by omega)) (ne g 49 (by omega) (by omega) (by omega)) (ne g 50 (by omega) (by omega) (by omega)) (ne g 51 (by omega) (by omega) (by omega)) (ne g 52 (by omega) (by omega) (by omega)) (ne g 53 (by omega) (by omega) (by omega)) (ne g 54 (by omega) (by omega) (by omega)) (ne g 55 (by omega) (by omega) (by omega)) (ne g 56 (by omega) (by omega) (by omega)) (ne g 57 (by omega) (by omega) (by omega)) (ne g 58 (by omega) (by omega) (by omega)) (ne g 59 (by omega) (by omega) (by omega)) (ne g 60 (by omega) (by omega) (by omega)) (ne g 61 (by omega) (by omega) (by omega)) (ne g 62 (by omega) (by omega) (by omega)) (ne g 63 (by omega) (by omega) (by omega)) (ne g 64 (by omega) (by omega) (by omega))
  have r2 : ∀ g, g < 66 → g ≠ 0 → g ≠ 4 → g ≠ 7 → nt_I M2 (pl g) = nt_I M1 (pl g) := fun g hg z0 z4 z7 => by
    rw [i2]
    exact x226_frJ (ne g 0 hg (by omega) z0) (ne g 4 hg (by omega) z4) (ne g 7 hg (by omega) z7)
  have e4 : ∀ j, j < 212 → nt_I M2 (pl 4) j = nt_I M (pl 4) j := fun j hj => by rw [i2, zb_226 ne hj, r1 4 (by omega) (by decide)]
  exact ⟨zz_Rae e4 (zz_Rag (fun i hi => (r2 (31 + i) (by omega) (by omega) (by omega) (by omega)).trans (r1 (31 + i) (by omega) (by omega))) hZ.1), zz_Ifr hS (ly_fr_tr f1 f2) (zz_5 (fun g q1 q2 q3 q4 q5 => (r2 g (by omega) q2 q3 q4).trans (r1 g (by omega) q5))) hZ.2⟩
theorem zz_yearsK {X : nt_X} {pl : Nat → Nat} {v mk xi : Nat → Int} {M M1 M2 : nt_M} {y1 y2 a b c d e : Int32} (hB : ly_B pl v M) (hS : ly_S pl mk xi (v 2) M) (hB1 : ly_B pl v M1) (f1 : ly_fr 66 pl M M1) (f2 : ly_fr 66 pl M1 M2) (e1 : nt_ev X 99 125 [.ref (pl 16), .int a, .int b, .int c, .int d, .int e] M (some (.int y1), M1)) (e2 : nt_ev X 99 231 [.ref (pl 0), .int a, .int b, .int c, .int d, .int e] M1 (some (.int y2), M2)) (hZ : zz_E pl M) : zz_E pl M2 := by
  have ne := zz_ne hB
  have c2 := xt231 (p := pl) (J := nt_I M1) (L := nt_J M1) (zz_P hB1) (zz_W hB1) e2
  have M2e := (lq_out c2).2
  have i2 : nt_I M2 = (x231 pl a b c d e (nt_I M1) (nt_J M1)).2.1 := by rw [M2e]; rfl
  have r1 : ∀ g, g < 48 → g ≠ 25 → nt_I M1 (pl g) = nt_I M (pl g) := by
    intro g hg z
    by_cases hn : a < 0
    · have c1 := xt125N (p := pl) (J := nt_I M) (zz_P hB) (zz_Qn hB) (zz_Qm hB) (zz_Nm hB) hn e1
      rw [(lq_out c1).2]
      exact x125N_frJ (ne g 48 (by omega) (by omega) (by omega)) (ne g 49 (by omega) (by omega) (by omega)) (ne g 50 (by omega) (by omega) (by omega)) (ne g 51 (by omega) (by omega) (by omega)) (ne g 52 (by omega) (by omega) (by omega)) (ne g 53 (by omega) (by omega) (by omega)) (ne g 54 (by omega) (by omega) (by omega)) (ne g 55 (by omega) (by omega) (by omega)) (ne g 56 (by omega) (by omega) (by omega)) (ne g 57 (by omega) (by omega) (by omega)) (ne g 58 (by omega) (by omega) (by omega)) (ne g 59 (by omega) (by omega) (by omega)) (ne g 60 (by omega) (by omega) (by omega)) (ne g 61 (by omega) (by omega) (by omega)) (ne g 62 (by omega) (by omega) (by omega)) (ne g 63 (by omega) (by omega) (by omega)) (ne g 64 (by omega) (by omega) (by omega))
    · by_cases h1 : nt_I M (pl 16) 4 ≤ a
      · have hx : x111 pl a (nt_I M) = Int32.ofInt 0 := by
          unfold x111
          rw [if_pos h1]
          split <;> rfl
        have c1 := xt125H (p := pl) (J := nt_I M) (zz_P hB) (zz_Qn hB) hx e1
        rw [(lq_out c1).2]
        rfl
      · obtain ⟨rb, q1, q2, q3, q4, q5⟩ := zz_rule hB hS hZ hn h1
        have c1 := xt125 (p := pl) (J := nt_I M) (L := nt_J M) (zz_P hB) (zz_Qn hB) (zz_Qm hB) (zz_Nm hB) q3 hn q1 h1 e1
        rw [(lq_out c1).2]
        exact x125_frJ (ne g 25 (by omega) (by omega) (by omega)) (ne g 48 (by omega) (by omega) (by omega)) (ne g 49 (by omega) (by omega) (by omega)) (ne g 50 (by omega) (by omega) (by omega)) (ne g 51 (by omega) (by omega) (by omega)) (ne g 52 (by omega) (by omega) (by omega)) (ne g 53 (by omega) (by omega) (by omega)) (ne g 54 (by omega) (by omega) (by omega)) (ne g 55 (by omega) (by omega) (by omega)) (ne g 56 (by omega) (by omega) (by omega)) (ne g 57 (by omega) (by omega) (by omega)) (ne g 58 (by omega) (by omega) (by omega)) (ne g 59 (by omega) (by omega) (by omega)) (ne g 60 (by omega) (by omega) (by omega)) (ne g 61 (by omega) (by omega) (by omega)) (ne g 62 (by omega) (by omega) (by omega)) (ne g 63 (by omega) (by omega) (by omega)) (ne g 64 (by omega) (by omega) (by omega))
  have r2 : ∀ g, g < 66 → g ≠ 0 → g ≠ 4 → g ≠ 7 → nt_I M2 (pl g) = nt_I M1 (pl g) := fun g hg z0 z4 z7 => by
    rw [i2]
    exact x231_frJ (ne g 0 hg (by omega) z0) (ne g 4 hg (by omega) z4) (ne g 7 hg (by omega) z7)
  have e4 : ∀ j, j < 212 → nt_I M2 (pl 4) j = nt_I M (pl 4) j := fun j hj => by rw [i2, zb_231 ne hj, r1 4 (by omega) (by decide)]
  exact ⟨zz_Rae e4 (zz_Rag (fun i hi => (r2 (31 + i) (by omega) (by omega) (by omega) (by omega)).trans (r1 (31 + i) (by omega) (by omega))) hZ.1), zz_Ifr hS (ly_fr_tr f1 f2) (zz_5 (fun g q1 q2 q3 q4 q5 => (r2 g (by omega) q2 q3 q4).trans (r1 g (by omega) q5))) hZ.2⟩
end
section
/-! images: both sides -/
theorem xr127 {X : nt_X} {d a k : Nat} {M : nt_M} {o : Option Value × nt_M} {p : Nat → Nat} {J : Nat → Nat → Int32} (hp : xs_P M p) (hq : xs_Q M (fun i => a + i)) (hr : xs_Q M (fun i => p (31 + i))) (hd : ∀ i j, i < 17 → j < 17 → a + i ≠ p (31 + j)) (hl : xs_N M (fun i => a + i)) (hk : k < 4) (hR : nt_R M (p 65) k = some a) (kk : nt_ev X d 127 [.ref (p 16), .int (nI k)] (me_w M J) o) : o = (some (.int (J (p 31) 2)), me_w M (x80 (fun i => a + i) (fun i => p (31 + i)) J)) := by
  have k1 : nt_rn X d 127 (0, [(0, .ref (p 16)), (1, .int (nI k))], [], me_w M J) o := kk
  have k1 := ly_revb 2 (c' := (if nI k < 0 then 9 else 4, [(0, .ref (p 16)), (1, .int (nI k))], [], me_w M J)) rfl k1
  rw [if_neg (nI_pos (by omega))] at k1
  have k1 := ly_revb 3 (c' := (if nI k < Int32.ofInt 4 then 11 else 9, [(0, .ref (p 16)), (1, .int (nI k))], [], me_w M J)) rfl k1
  rw [if_pos (show nI k < Int32.ofInt 4 from nI_lt (b := 4) hk (by omega))] at k1
  have k1 := ly_revb 1 (c' := (12, [(0, .ref (p 16)), (1, .int (nI k))], [.ref (p 16)], me_w M J)) rfl k1
  have k1 := lz_get (a := (p 16)) (g := 1009) (M := me_w M J) (v := .ref (p 65)) rfl (nt_gfR rfl (hp.1 (16, 9, 65) (by decide))) k1
  have k1 := ly_revb 1 (c' := (16, [(0, .ref (p 16)), (1, .int (nI k))], [.int (nI k), .ref (p 65)], me_w M J)) rfl k1
  have k1 := mx_aald rfl k1
  rw [show nt_R (me_w M J) (p 65) (nI k).toNatClampNeg = some a from by rw [nI_clamp (by omega)]; exact hR] at k1
  have k1 := ly_revb 1 (c' := (33, [(0, .ref (p 16)), (1, .int (nI k))], [], me_w M J)) rfl k1
  have k1 := ly_revb 1 (c' := (34, [(0, .ref (p 16)), (1, .int (nI k))], [.ref (p 16)], me_w M J)) rfl k1
  have k1 := lz_get (a := (p 16)) (g := 1009) (M := me_w M J) (v := .ref (p 65)) rfl (nt_gfR rfl (hp.1 (16, 9, 65) (by decide))) k1
  have k1 := ly_revb 1 (c' := (38, [(0, .ref (p 16)), (1, .int (nI k))], [.int (nI k), .ref (p 65)], me_w M J)) rfl k1
  have k1 := mx_aald rfl k1
  rw [show nt_R (me_w M J) (p 65) (nI k).toNatClampNeg = some a from by rw [nI_clamp (by omega)]; exact hR] at k1
  have k1 := ly_revb 1 (c' := (40, [(0, .ref (p 16)), (1, .int (nI k))], [.ref (p 16), .ref a], me_w M J)) rfl k1
  have k1 := lz_get (a := (p 16)) (g := 1007) (M := me_w M J) (v := .ref (p 31)) rfl (nt_gfR rfl (hp.1 (16, 7, 31) (by decide))) k1
  obtain ⟨d1, o1, ed, kc, k1⟩ := lz_c (g := 80) (q := 1) (vs := [.ref a, .ref (p 31)]) (rest := []) rfl rfl (by decide) (Or.inr (Or.inl ⟨_, rfl, rfl⟩)) rfl k1
  have e1 := xt80 (q := fun i => a + i) (r := fun i => p (31 + i)) hq hr hd hl kc
  subst e1
  have k1 : nt_rn X _ 127 (46, [(0, .ref (p 16)), (1, .int (nI k))], [], me_w M (x80 (fun i => a + i) (fun i => p (31 + i)) J)) _ := k1
  have k1 := ly_revb 1 (c' := (47, [(0, .ref (p 16)), (1, .int (nI k))], [.ref (p 16)], me_w M (x80 (fun i => a + i) (fun i => p (31 + i)) J))) rfl k1
  have k1 := lz_get (a := (p 16)) (g := 1007) (M := me_w M (x80 (fun i => a + i) (fun i => p (31 + i)) J)) (v := .ref (p 31)) rfl (nt_gfR rfl (hp.1 (16, 7, 31) (by decide))) k1
  have k1 := lz_get (a := (p 31)) (g := 602) (M := me_w M (x80 (fun i => a + i) (fun i => p (31 + i)) J)) (v := .int (J (p 31) 2)) rfl (congrArg Value.int (congrFun (x80_frJ (Ne.symm (hd 0 0 (by omega) (by omega))) (Ne.symm (hd 1 0 (by omega) (by omega))) (Ne.symm (hd 2 0 (by omega) (by omega))) (Ne.symm (hd 3 0 (by omega) (by omega))) (Ne.symm (hd 4 0 (by omega) (by omega))) (Ne.symm (hd 5 0 (by omega) (by omega))) (Ne.symm (hd 6 0 (by omega) (by omega))) (Ne.symm (hd 7 0 (by omega) (by omega))) (Ne.symm (hd 8 0 (by omega) (by omega))) (Ne.symm (hd 9 0 (by omega) (by omega))) (Ne.symm (hd 10 0 (by omega) (by omega))) (Ne.symm (hd 11 0 (by omega) (by omega))) (Ne.symm (hd 12 0 (by omega) (by omega))) (Ne.symm (hd 13 0 (by omega) (by omega))) (Ne.symm (hd 14 0 (by omega) (by omega))) (Ne.symm (hd 15 0 (by omega) (by omega))) (Ne.symm (hd 16 0 (by omega) (by omega)))) 2)) k1
  exact lz_ri rfl (by decide) k1
theorem xr128 {X : nt_X} {d a k : Nat} {M : nt_M} {o : Option Value × nt_M} {p : Nat → Nat} {J : Nat → Nat → Int32} (hp : xs_P M p) (hq : xs_Q M (fun i => p (31 + i))) (hr : xs_Q M (fun i => a + i)) (hd : ∀ i j, i < 17 → j < 17 → p (31 + i) ≠ a + j) (hl : xs_N M (fun i => p (31 + i))) (hk : k < 4) (hR : nt_R M (p 65) k = some a) (kk : nt_ev X d 128 [.ref (p 16), .int (nI k)] (me_w M J) o) : o = (some (.int (x80 (fun i => p (31 + i)) (fun i => a + i) J (p 31) 2)), me_w M (x80 (fun i => p (31 + i)) (fun i => a + i) J)) := by
  have k1 : nt_rn X d 128 (0, [(0, .ref (p 16)), (1, .int (nI k))], [], me_w M J) o := kk
  have k1 := ly_revb 2 (c' := (if nI k < 0 then 18 else 4, [(0, .ref (p 16)), (1, .int (nI k))], [], me_w M J)) rfl k1
  rw [if_neg (nI_pos (by omega))] at k1
  have k1 := ly_revb 3 (c' := (if Int32.ofInt 4 ≤ nI k then 18 else 9, [(0, .ref (p 16)), (1, .int (nI k))], [], me_w M J)) rfl k1
  rw [if_neg (show ¬ Int32.ofInt 4 ≤ nI k from nI_ge (b := 4) hk (by omega))] at k1
  have k1 := ly_revb 1 (c' := (10, [(0, .ref (p 16)), (1, .int (nI k))], [.ref (p 16)], me_w M J)) rfl k1
  have k1 := lz_get (a := (p 16)) (g := 1009) (M := me_w M J) (v := .ref (p 65)) rfl (nt_gfR rfl (hp.1 (16, 9, 65) (by decide))) k1
  have k1 := ly_revb 1 (c' := (14, [(0, .ref (p 16)), (1, .int (nI k))], [.int (nI k), .ref (p 65)], me_w M J)) rfl k1
  have k1 := mx_aald rfl k1
  rw [show nt_R (me_w M J) (p 65) (nI k).toNatClampNeg = some a from by rw [nI_clamp (by omega)]; exact hR] at k1
  have k1 := ly_revb 1 (c' := (20, [(0, .ref (p 16)), (1, .int (nI k))], [], me_w M J)) rfl k1
  have k1 := ly_revb 1 (c' := (21, [(0, .ref (p 16)), (1, .int (nI k))], [.ref (p 16)], me_w M J)) rfl k1
  have k1 := lz_get (a := (p 16)) (g := 1007) (M := me_w M J) (v := .ref (p 31)) rfl (nt_gfR rfl (hp.1 (16, 7, 31) (by decide))) k1
  have k1 := ly_revb 1 (c' := (25, [(0, .ref (p 16)), (1, .int (nI k))], [.ref (p 16), .ref (p 31)], me_w M J)) rfl k1
  have k1 := lz_get (a := (p 16)) (g := 1009) (M := me_w M J) (v := .ref (p 65)) rfl (nt_gfR rfl (hp.1 (16, 9, 65) (by decide))) k1
  have k1 := ly_revb 1 (c' := (29, [(0, .ref (p 16)), (1, .int (nI k))], [.int (nI k), .ref (p 65), .ref (p 31)], me_w M J)) rfl k1
  have k1 := mx_aald rfl k1
  rw [show nt_R (me_w M J) (p 65) (nI k).toNatClampNeg = some a from by rw [nI_clamp (by omega)]; exact hR] at k1
  have k1 : nt_rn X d 128 (30, [(0, .ref (p 16)), (1, .int (nI k))], [.ref a, .ref (p 31)], me_w M J) o := k1
  obtain ⟨d1, o1, ed, kc, k1⟩ := lz_c (g := 80) (q := 1) (vs := [.ref (p 31), .ref a]) (rest := []) rfl rfl (by decide) (Or.inr (Or.inl ⟨_, rfl, rfl⟩)) rfl k1
  have e1 := xt80 (q := fun i => p (31 + i)) (r := fun i => a + i) hq hr hd hl kc
  subst e1
  have k1 : nt_rn X _ 128 (33, [(0, .ref (p 16)), (1, .int (nI k))], [], me_w M (x80 (fun i => p (31 + i)) (fun i => a + i) J)) _ := k1
  have k1 := ly_revb 1 (c' := (34, [(0, .ref (p 16)), (1, .int (nI k))], [.ref (p 16)], me_w M (x80 (fun i => p (31 + i)) (fun i => a + i) J))) rfl k1
  have k1 := lz_get (a := (p 16)) (g := 1007) (M := me_w M (x80 (fun i => p (31 + i)) (fun i => a + i) J)) (v := .ref (p 31)) rfl (nt_gfR rfl (hp.1 (16, 7, 31) (by decide))) k1
  have k1 := lz_get (a := (p 31)) (g := 602) (M := me_w M (x80 (fun i => p (31 + i)) (fun i => a + i) J)) (v := .int (x80 (fun i => p (31 + i)) (fun i => a + i) J (p 31) 2)) rfl rfl k1
  exact lz_ri rfl (by decide) k1
theorem xr128N {X : nt_X} {d k : Nat} {M : nt_M} {o : Option Value × nt_M} {p : Nat → Nat} {J : Nat → Nat → Int32} (hp : xs_P M p) (hk : k < 4) (hR : nt_R M (p 65) k = none) (kk : nt_ev X d 128 [.ref (p 16), .int (nI k)] (me_w M J) o) : o = (some (.int (Int32.ofInt (-1))), me_w M J) := by
  have k1 : nt_rn X d 128 (0, [(0, .ref (p 16)), (1, .int (nI k))], [], me_w M J) o := kk
  have k1 := ly_revb 2 (c' := (if nI k < 0 then 18 else 4, [(0, .ref (p 16)), (1, .int (nI k))], [], me_w M J)) rfl k1
  rw [if_neg (nI_pos (by omega))] at k1
  have k1 := ly_revb 3 (c' := (if Int32.ofInt 4 ≤ nI k then 18 else 9, [(0, .ref (p 16)), (1, .int (nI k))], [], me_w M J)) rfl k1
  rw [if_neg (show ¬ Int32.ofInt 4 ≤ nI k from nI_ge (b := 4) hk (by omega))] at k1
  have k1 := ly_revb 1 (c' := (10, [(0, .ref (p 16)), (1, .int (nI k))], [.ref (p 16)], me_w M J)) rfl k1
  have k1 := lz_get (a := (p 16)) (g := 1009) (M := me_w M J) (v := .ref (p 65)) rfl (nt_gfR rfl (hp.1 (16, 9, 65) (by decide))) k1
  have k1 := ly_revb 1 (c' := (14, [(0, .ref (p 16)), (1, .int (nI k))], [.int (nI k), .ref (p 65)], me_w M J)) rfl k1
  have k1 := mx_aald rfl k1
  rw [show nt_R (me_w M J) (p 65) (nI k).toNatClampNeg = none from by rw [nI_clamp (by omega)]; exact hR] at k1
  have k1 := ly_revb 2 (c' := (19, [(0, .ref (p 16)), (1, .int (nI k))], [.int (Int32.ofInt (-1))], me_w M J)) rfl k1
  exact lz_ri rfl (by decide) k1
/-- the other side's rows -/
theorem zi_ix {k : Nat} {i : Int32} (hk : k < 4) (h0 : 0 ≤ i.toInt) (h1 : i.toInt < 212) : ((Int32.ofInt 212 * nI k) + i).toNatClampNeg = 212 * k + i.toNatClampNeg := by
  have a : (nI k).toInt = k := nI_toInt (by omega)
  have c : (Int32.ofInt 212).toInt = 212 := by decide
  have m : (Int32.ofInt 212 * nI k).toInt = 212 * k := by rw [Int32.toInt_mul, a, c, Int.bmod_eq_of_le (by omega) (by omega)]
  have s : (Int32.ofInt 212 * nI k + i).toInt = 212 * k + i.toInt := by rw [Int32.toInt_add, m, Int.bmod_eq_of_le (by omega) (by omega)]
  rw [zn_t, zn_t, s]
  omega
theorem zim_l {p : Nat → Nat} {k : Nat} (hk : k < 4) (hn : p 4 ≠ p 14) : ∀ (c : Nat) (i : Int32) (J : Nat → Nat → Int32), 0 ≤ i.toInt → 212 - i.toInt ≤ c → (x234_23 p (nI k) c i J).1 = J (p 4) 4 ∧ (∀ j, i.toNatClampNeg ≤ j → j < 212 → (x234_23 p (nI k) c i J).2 (p 14) (212 * k + j) = J (p 4) j) ∧ (∀ j, j < 212 * k + i.toNatClampNeg ∨ 212 * k + 212 ≤ j → (x234_23 p (nI k) c i J).2 (p 14) j = J (p 14) j) := by
  intro c
  induction c with
  | zero =>
    intro i J h hc
    have t := z_tn h
    exact ⟨rfl, fun j a b => by omega, fun j a => rfl⟩
  | succ c ih =>
    intro i J h hc
    have t := z_tn h
    rw [x234_23]
    by_cases h1 : Int32.ofInt 212 ≤ i
    · rw [if_pos h1]
      have h1 := z_ge.mp h1
      rw [show (Int32.ofInt 212).toInt = 212 from by decide] at h1
      exact ⟨rfl, fun j a b => by omega, fun j a => rfl⟩
    · rw [if_neg h1]
      have l := z_lt h1
      rw [show (Int32.ofInt 212).toInt = 212 from by decide] at l
      have hc' : (Int32.ofInt 212).toInt - i.toInt ≤ (c + 1 : Nat) := by
        rw [show (Int32.ofInt 212).toInt = 212 from by decide]
        exact hc
      have d := lx_dec h1 hc'
      rw [show (Int32.ofInt 212).toInt = 212 from by decide] at d
      rw [zi_ix hk h l]
      have z := ih (i + Int32.ofInt 1) (nt_u J (p 14) (212 * k + i.toNatClampNeg) (J (p 4) i.toNatClampNeg)) (xi_nn h1 h) d
      have i1 : (i + Int32.ofInt 1).toNatClampNeg = i.toNatClampNeg + 1 := by
        rw [zn_t, zn_t, lx_inc h1]
        omega
      rw [i1, me_uo hn] at z
      refine ⟨z.1, fun j a b => ?_, fun j a => ?_⟩
      · by_cases e : j = i.toNatClampNeg
        · rw [e, z.2.2 _ (by omega), me_us]
        · exact z.2.1 j (by omega) b
      · rw [z.2.2 j (by omega), me_uk (by omega)]
theorem zi_01 {k : Nat} (hk : k < 4) : ¬ x145 (nI k).toInt64 (Int64.ofNat 0) 3 = 0 := by
  have a : (nI k).toInt = k := nI_toInt (by omega)
  rw [z_145, a, if_neg (by rw [show (Int64.ofNat 0).toInt = 0 from by decide, show (3 : Int64).toInt = 3 from by decide]; omega)]
  decide
theorem zimR {p : Nat → Nat} {k : Nat} {J : Nat → Nat → Int32} (hk : k < 4) (hn : p 4 ≠ p 14) (h5 : p 4 ≠ p 15) (h45 : p 14 ≠ p 15) : (x234 p (nI k) J).1 = J (p 4) 4 ∧ (∀ j, j < 212 → (x234 p (nI k) J).2 (p 14) (212 * k + j) = J (p 4) j) ∧ (∀ j, j < 212 * k ∨ 212 * k + 212 ≤ j → (x234 p (nI k) J).2 (p 14) j = J (p 14) j) := by
  unfold x234
  rw [if_neg (zi_01 hk)]
  have z := zim_l hk hn ((Int32.ofInt 212).toNatClampNeg) (Int32.ofInt 0) (nt_u J (p 15) (nI k).toNatClampNeg (vp_nar .boolean (Int32.ofInt 1))) (by decide) (by decide)
  rw [me_uo h5, me_uo h45, show (Int32.ofInt 0).toNatClampNeg = 0 from rfl] at z
  exact ⟨z.1, fun j hj => z.2.1 j (Nat.zero_le _) hj, fun j hj => z.2.2 j hj⟩
theorem zbk_l {p : Nat → Nat} {k : Nat} (hk : k < 4) (hn : p 14 ≠ p 4) : ∀ (c : Nat) (i : Int32) (J : Nat → Nat → Int32), 0 ≤ i.toInt → 212 - i.toInt ≤ c → (x235_25 p (nI k) c i J).1 = (x235_25 p (nI k) c i J).2 (p 4) 4 ∧ (∀ j, i.toNatClampNeg ≤ j → j < 212 → (x235_25 p (nI k) c i J).2 (p 4) j = J (p 14) (212 * k + j)) ∧ (∀ j, j < i.toNatClampNeg ∨ 212 ≤ j → (x235_25 p (nI k) c i J).2 (p 4) j = J (p 4) j) := by
  intro c
  induction c with
  | zero =>
    intro i J h hc
    have t := z_tn h
    exact ⟨rfl, fun j a b => by omega, fun j a => rfl⟩
  | succ c ih =>
    intro i J h hc
    have t := z_tn h
    rw [x235_25]
    by_cases h1 : Int32.ofInt 212 ≤ i
    · rw [if_pos h1]
      have h1 := z_ge.mp h1
      rw [show (Int32.ofInt 212).toInt = 212 from by decide] at h1
      exact ⟨rfl, fun j a b => by omega, fun j a => rfl⟩
    · rw [if_neg h1]
      have l := z_lt h1
      rw [show (Int32.ofInt 212).toInt = 212 from by decide] at l
      have hc' : (Int32.ofInt 212).toInt - i.toInt ≤ (c + 1 : Nat) := by
        rw [show (Int32.ofInt 212).toInt = 212 from by decide]
        exact hc
      have d := lx_dec h1 hc'
      rw [show (Int32.ofInt 212).toInt = 212 from by decide] at d
      rw [zi_ix hk h l]
      have z := ih (i + Int32.ofInt 1) (nt_u J (p 4) i.toNatClampNeg (J (p 14) (212 * k + i.toNatClampNeg))) (xi_nn h1 h) d
      have i1 : (i + Int32.ofInt 1).toNatClampNeg = i.toNatClampNeg + 1 := by
        rw [zn_t, zn_t, lx_inc h1]
        omega
      rw [i1, me_uo hn] at z
      refine ⟨z.1, fun j a b => ?_, fun j a => ?_⟩
      · by_cases e : j = i.toNatClampNeg
        · rw [e, z.2.2 _ (by omega), me_us]
        · exact z.2.1 j (by omega) b
      · rw [z.2.2 j (by omega), me_uk (by omega)]
theorem zbkR {p : Nat → Nat} {k : Nat} {J : Nat → Nat → Int32} (hk : k < 4) (hn : p 14 ≠ p 4) (hm : ¬ J (p 15) k = 0) : (x235 p (nI k) J).1 = J (p 14) (212 * k + 4) ∧ (∀ j, j < 212 → (x235 p (nI k) J).2 (p 4) j = J (p 14) (212 * k + j)) := by
  unfold x235
  rw [if_neg (zi_01 hk), nI_clamp (by omega), if_neg hm]
  have z := zbk_l hk hn ((Int32.ofInt 212).toNatClampNeg) (Int32.ofInt 0) J (by decide) (by decide)
  exact ⟨z.1.trans (z.2.1 4 (by decide) (by omega)), fun j hj => z.2.1 j (Nat.zero_le _) hj⟩
/-- an image is made -/
theorem zz_img2 {X : nt_X} {pl : Nat → Nat} {v mk xi mk1 xi1 : Nat → Int} {rc : Int} {M M1 M2 : nt_M} {y1 y2 : Int32} {k : Nat} (hk : k < 4) (hB : ly_B pl v M) (hS : ly_S pl mk xi rc M) (hI : lq_I X pl v 99 k y1 M M1) (hB1 : ly_B pl v M1) (hS1 : ly_S pl mk1 xi1 (v 2) M1) (f2 : ly_fr 66 pl M1 M2) (e2 : nt_ev X 99 234 [.ref (pl 0), .int (nI k)] M1 (some (.int y2), M2)) (hZ : zz_E pl M) : y1 = y2 ∧ zz_E pl M2 := by
  have ne := zz_ne hB
  obtain ⟨N, a, x, hN, r65, a66, im, eN, same, r65', hJ, j1, j2, j3, j4⟩ := hI
  have p66 := hS.1.1
  have da : ∀ i g, g < 66 → a + i ≠ pl g := fun i g hg e => by have := p66 g hg; omega
  have c1 := xr127 (p := pl) (J := nt_I N) (zz_P hN) (zz_Qi hN.2.1.1 im) (zz_Qn hN) (fun i j _ hj => da i _ (by omega)) (zz_Ni im) hk r65 eN
  obtain ⟨y1e, M1e⟩ := lq_out c1
  have i1 : nt_I M1 = x80 (fun i => a + i) (fun i => pl (31 + i)) (nt_I N) := by rw [M1e]; rfl
  have n1 : nt_n M1 = nt_n N := by rw [M1e]; rfl
  have l1 : nt_l M1 = nt_l N := by rw [M1e]; rfl
  have R1 : ∀ g j, nt_R M1 g j = nt_R N g j := fun g j => by rw [M1e]; rfl
  have fr1 : ∀ b, (∀ i, i < 17 → b ≠ a + i) → nt_I M1 b = nt_I N b := fun b hb => by
    rw [i1]
    exact x80_frJ (hb 0 (by omega)) (hb 1 (by omega)) (hb 2 (by omega)) (hb 3 (by omega)) (hb 4 (by omega)) (hb 5 (by omega)) (hb 6 (by omega)) (hb 7 (by omega)) (hb 8 (by omega)) (hb 9 (by omega)) (hb 10 (by omega)) (hb 11 (by omega)) (hb 12 (by omega)) (hb 13 (by omega)) (hb 14 (by omega)) (hb 15 (by omega)) (hb 16 (by omega))
  have g1 : ∀ g, g < 66 → nt_I M1 (pl g) = nt_I M (pl g) := fun g hg => (fr1 _ (fun i _ => (da i g hg).symm)).trans (funext (fun j => same g j hg))
  have c2 := xt234 (p := pl) (J := nt_I M1) (zz_P hB1) (hB1.2.1.2 15 _ (show ly_E.2.1[15]? = some (15, 4, 4, 0) from rfl)).2.1 e2
  obtain ⟨y2e, M2e⟩ := lq_out c2
  have i2 : nt_I M2 = (x234 pl (nI k) (nt_I M1)).2 := by rw [M2e]; rfl
  have n2 : nt_n M2 = nt_n M1 := by rw [M2e]; rfl
  have l2 : nt_l M2 = nt_l M1 := by rw [M2e]; rfl
  have R2 : ∀ g j, nt_R M2 g j = nt_R M1 g j := fun g j => by rw [M2e]; rfl
  have z := zimR (p := pl) (J := nt_I M1) hk (ne 4 14 (by omega) (by omega) (by decide)) (ne 4 15 (by omega) (by omega) (by decide)) (ne 14 15 (by omega) (by omega) (by decide))
  rw [← i2] at z
  have fr2 : ∀ b, b ≠ pl 14 → b ≠ pl 15 → nt_I M2 b = nt_I M1 b := fun b h1 h2 => by
    rw [i2]
    exact x234_frJ h1 h2
  have g2 : ∀ g, g < 66 → g ≠ 14 → g ≠ 15 → nt_I M2 (pl g) = nt_I M (pl g) := fun g hg h1 h2 => (fr2 _ (ne g 14 hg (by omega) h1) (ne g 15 hg (by omega) h2)).trans (g1 g hg)
  have o2 : ∀ b, 66 ≤ b → nt_I M2 b = nt_I M1 b := fun b hb => fr2 b (fun e => by have := p66 14 (by omega); omega) (fun e => by have := p66 15 (by omega); omega)
  have vn : (nt_I M (pl 16) 4).toInt = v 2 := ly_vI hB
  obtain ⟨_, _, T, t1, t2⟩ := hS1
  have Ta : ∀ i, i < 17 → T (a + i) = k := by
    rcases t1 k hk with ⟨c, _⟩ | ⟨a', c, _, _, _, c5, _⟩
    · rw [r65'] at c
      cases c
    · rw [r65'] at c
      cases c
      exact c5
  have hZ0 := hZ
  obtain ⟨⟨hR, hW, hd, hz⟩, hI1, hI2⟩ := hZ
  refine ⟨?_, ?_, fun k' hk' a' ha' => ?_, fun u b hu hb => ?_⟩
  · rw [y1e, y2e, z.1, g1 4 (by omega)]
    have e31 : nt_I N (pl 31) 2 = nt_I M (pl 31) 2 := same 31 2 (by omega)
    rw [e31]
    exact zR_4 hR
  · rw [g2 4 (by omega) (by decide) (by decide)]
    exact zz_Rag (fun i hi => g2 (31 + i) (by omega) (by omega) (by omega)) hZ0.1
  · rw [R2] at ha'
    by_cases e : k' = k
    · subst e
      rw [r65'] at ha'
      cases ha'
      have i16 := (im.1 16 _ (show ly_ED[16]? = some (13, 8, 8, 0) from rfl)).1
      refine ⟨⟨a66, by omega⟩, ?_⟩
      have cp : zz_R (fun i => a + i) (nt_I M2) (nt_I M (pl 4)) := by
        refine ⟨zR_aj (fun i hi => o2 _ (by omega)) (J := nt_I M1) ?_, hW, hd, hz⟩
        rw [i1]
        exact zR_copy (fun i j _ _ hij e => hij (Nat.add_left_cancel e)) (zR_aj (fun i hi => funext (fun j => same (31 + i) j (by omega))) hR)
      refine zz_Rae (fun j hj => ?_) cp
      unfold zim
      rw [if_pos hj, z.2.1 j hj, g1 4 (by omega)]
    · have ha0 := ha'
      rw [R1, j3 k' e] at ha'
      obtain ⟨⟨b1, b2⟩, b3⟩ := hI1 k' hk' a' ha'
      refine ⟨⟨b1, by omega⟩, ?_⟩
      have Ta' : ∀ i, i < 17 → T (a' + i) = k' := by
        rcases t1 k' hk' with ⟨c, _⟩ | ⟨a2, c, _, _, _, c5, _⟩
        · rw [ha0] at c
          cases c
        · rw [ha0] at c
          cases c
          exact c5
      refine zz_Rae (e := zim (nt_I M) (pl 14) k') (fun j hj => ?_) (zz_Rag (fun i hi => ?_) b3)
      · unfold zim
        rw [if_pos hj, if_pos hj, z.2.2 _ (by omega), g1 14 (by omega)]
      · rw [o2 _ (by omega), fr1 _ (fun i' hi' e' => e (by rw [← Ta' i hi, e', Ta i' hi'])), (j1 _ (by omega)).1]
  · rw [R2] at hb
    have hb0 := hb
    rw [R1, j4 u] at hb
    obtain ⟨⟨b1, b2, b3⟩, b4⟩ := hI2 u b hu hb
    have Tb : T (b + 1) = 4 + u := by
      obtain ⟨b', c, _, _, _, c5, _⟩ := t2 u (by omega)
      rw [hb0] at c
      cases c
      exact c5
    refine ⟨⟨b1, by omega, by rw [g2 16 (by omega) (by decide) (by decide)]; exact b3⟩, ?_⟩
    rw [l2, l1, (j1 (b + 1) (by omega)).2]
    exact zRQ_ag b4 (by rw [o2 _ (by omega), fr1 _ (fun i' hi' e' => by have := Ta i' hi'; rw [← e'] at this; omega), (j1 _ (by omega)).1]) (g2 1 (by omega) (by decide) (by decide)) (g2 2 (by omega) (by decide) (by decide)) (g2 3 (by omega) (by decide) (by decide))
/-- an image is gone back to -/
theorem zz_back2 {X : nt_X} {pl : Nat → Nat} {v v1 mk xi : Nat → Int} {rc : Int} {M M1 M2 : nt_M} {y1 y2 : Int32} {k : Nat} (hk : k < 4) (hB : ly_B pl v M) (hS : ly_S pl mk xi rc M) (hm : mk k = 1) (hB1 : ly_B pl v1 M1) (h15 : ¬ nt_I M (pl 15) k = 0) (e1 : nt_ev X 99 128 [.ref (pl 16), .int (nI k)] M (some (.int y1), M1)) (e2 : nt_ev X 99 235 [.ref (pl 0), .int (nI k)] M1 (some (.int y2), M2)) (hZ : zz_E pl M) : y1 = y2 ∧ zz_E pl M2 := by
  have ne := zz_ne hB
  have p66 := hS.1.1
  obtain ⟨a, r65, a66, im⟩ : ∃ a, nt_R M (pl 65) k = some a ∧ 66 ≤ a ∧ ly_im a (xi k) M := by
    obtain ⟨_, _, T, t1, _⟩ := hS
    rcases t1 k hk with ⟨_, c⟩ | ⟨a, c1, _, c3, _, _, c6⟩
    · omega
    · exact ⟨a, c1, c3, c6⟩
  have da : ∀ g j, g < 66 → pl g ≠ a + j := fun g j hg e => by have := p66 g hg; omega
  have c1 := xr128 (p := pl) (J := nt_I M) (zz_P hB) (zz_Qn hB) (zz_Qi hB.2.1.1 im) (fun i j hi _ => da _ j (by omega)) (zz_Nn hB) hk r65 e1
  obtain ⟨y1e, M1e⟩ := lq_out c1
  have i1 : nt_I M1 = x80 (fun i => pl (31 + i)) (fun i => a + i) (nt_I M) := by rw [M1e]; rfl
  have n1 : nt_n M1 = nt_n M := by rw [M1e]; rfl
  have l1 : nt_l M1 = nt_l M := by rw [M1e]; rfl
  have R1 : ∀ g j, nt_R M1 g j = nt_R M g j := fun g j => by rw [M1e]; rfl
  have fr1 : ∀ b, (∀ i, i < 17 → b ≠ pl (31 + i)) → nt_I M1 b = nt_I M b := fun b hb => by
    rw [i1]
    exact x80_frJ (hb 0 (by omega)) (hb 1 (by omega)) (hb 2 (by omega)) (hb 3 (by omega)) (hb 4 (by omega)) (hb 5 (by omega)) (hb 6 (by omega)) (hb 7 (by omega)) (hb 8 (by omega)) (hb 9 (by omega)) (hb 10 (by omega)) (hb 11 (by omega)) (hb 12 (by omega)) (hb 13 (by omega)) (hb 14 (by omega)) (hb 15 (by omega)) (hb 16 (by omega))
  have g1 : ∀ g, g < 31 → nt_I M1 (pl g) = nt_I M (pl g) := fun g hg => fr1 _ (fun i hi => ne g (31 + i) (by omega) (by omega) (by omega))
  have o1 : ∀ b, 66 ≤ b → nt_I M1 b = nt_I M b := fun b hb => fr1 b (fun i hi e => by have := p66 (31 + i) (by omega); omega)
  have c2 := xt235 (p := pl) (J := nt_I M1) (zz_P hB1) e2
  obtain ⟨y2e, M2e⟩ := lq_out c2
  have i2 : nt_I M2 = (x235 pl (nI k) (nt_I M1)).2 := by rw [M2e]; rfl
  have n2 : nt_n M2 = nt_n M1 := by rw [M2e]; rfl
  have l2 : nt_l M2 = nt_l M1 := by rw [M2e]; rfl
  have R2 : ∀ g j, nt_R M2 g j = nt_R M1 g j := fun g j => by rw [M2e]; rfl
  have z := zbkR (p := pl) (J := nt_I M1) hk (ne 14 4 (by omega) (by omega) (by decide)) (by rw [g1 15 (by omega)]; exact h15)
  rw [← i2] at z
  have fr2 : ∀ b, b ≠ pl 4 → nt_I M2 b = nt_I M1 b := fun b h1 => by
    rw [i2]
    exact x235_frJ h1
  have g2 : ∀ g, g < 31 → g ≠ 4 → nt_I M2 (pl g) = nt_I M (pl g) := fun g hg h1 => (fr2 _ (ne g 4 (by omega) (by omega) h1)).trans (g1 g hg)
  have o2 : ∀ b, 66 ≤ b → nt_I M2 b = nt_I M b := fun b hb => (fr2 b (fun e => by have := p66 4 (by omega); omega)).trans (o1 b hb)
  obtain ⟨_, hI1, hI2⟩ := hZ
  obtain ⟨⟨b1, b2⟩, b3⟩ := hI1 k hk a r65
  have rw4 : ∀ j, j < 212 → nt_I M2 (pl 4) j = zim (nt_I M) (pl 14) k j := fun j hj => by
    unfold zim
    rw [if_pos hj, z.2 j hj, g1 14 (by omega)]
  have cp : zz_R (fun i => pl (31 + i)) (nt_I M2) (zim (nt_I M) (pl 14) k) := by
    refine ⟨zR_aj (fun i hi => fr2 _ (ne (31 + i) 4 (by omega) (by omega) (by omega))) (J := nt_I M1) ?_, b3.2⟩
    rw [i1]
    exact zR_copy (fun i j hi hj hij e => ne (31 + i) (31 + j) (by omega) (by omega) (by omega) e) b3.1
  refine ⟨?_, zz_Rae rw4 cp, fun k' hk' a' ha' => ?_, fun u b hu hb => ?_⟩
  · rw [y1e, y2e, z.1, xc80_0_2 (q := fun i => pl (31 + i)) (fun i j hi hj hij e => ne (31 + i) (31 + j) (by omega) (by omega) (by omega) e), g1 14 (by omega)]
    have := zR_4 b3.1
    rw [show zim (nt_I M) (pl 14) k 4 = nt_I M (pl 14) (212 * k + 4) from if_pos (by omega)] at this
    exact this
  · rw [R2, R1] at ha'
    obtain ⟨⟨d1, d2⟩, d3⟩ := hI1 k' hk' a' ha'
    refine ⟨⟨d1, by omega⟩, zz_Rae (e := zim (nt_I M) (pl 14) k') (fun j hj => ?_) (zz_Rag (fun i hi => o2 _ (by omega)) d3)⟩
    unfold zim
    rw [if_pos hj, if_pos hj, g2 14 (by omega) (by decide)]
  · rw [R2, R1] at hb
    obtain ⟨⟨d1, d2, d3⟩, d4⟩ := hI2 u b hu hb
    refine ⟨⟨d1, by omega, by rw [g2 16 (by omega) (by decide)]; exact d3⟩, ?_⟩
    rw [l2, l1]
    exact zRQ_ag d4 (o2 _ (by omega)) (g2 1 (by omega) (by decide)) (g2 2 (by omega) (by decide)) (g2 3 (by omega) (by decide))
theorem zz_back2N {X : nt_X} {pl : Nat → Nat} {v v1 : Nat → Int} {M M1 M2 : nt_M} {y1 y2 : Int32} {k : Nat} (hk : k < 4) (hB : ly_B pl v M) (hn : nt_R M (pl 65) k = none) (hB1 : ly_B pl v1 M1) (h15 : nt_I M (pl 15) k = 0) (e1 : nt_ev X 99 128 [.ref (pl 16), .int (nI k)] M (some (.int y1), M1)) (e2 : nt_ev X 99 235 [.ref (pl 0), .int (nI k)] M1 (some (.int y2), M2)) (hZ : zz_E pl M) : y1 = y2 ∧ zz_E pl M2 := by
  have c1 := xr128N (p := pl) (J := nt_I M) (zz_P hB) hk hn e1
  obtain ⟨y1e, M1e⟩ := lq_out c1
  have M1e : M1 = M := M1e
  subst M1e
  have c2 := xt235 (p := pl) (J := nt_I M1) (zz_P hB1) e2
  obtain ⟨y2e, M2e⟩ := lq_out c2
  have u : x235 pl (nI k) (nt_I M1) = (Int32.ofInt (-1), nt_I M1) := by
    unfold x235
    rw [if_neg (zi_01 hk), nI_clamp (by omega), if_pos h15]
  rw [u] at M2e y2e
  have M2e : M2 = M1 := M2e
  subst M2e
  exact ⟨by rw [y1e, y2e], hZ⟩
end
