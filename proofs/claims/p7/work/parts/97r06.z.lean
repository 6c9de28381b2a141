/-! the tapes, the counts of rules are the same -/
def lq_E (pl : Nat → Nat) (M : nt_M) : Prop := ∃ t n : Nat, t ≤ 400 ∧ n ≤ 6 ∧ nt_I M (pl 17) 1 = nI t ∧ nt_I M (pl 0) 1 = nI t ∧ (∀ j, nt_I M (pl 8) j = nt_I M (pl 18) j) ∧ (∀ j, -128 ≤ (nt_I M (pl 18) j).toInt ∧ (nt_I M (pl 18) j).toInt ≤ 127) ∧ nt_I M (pl 16) 4 = nI n ∧ nt_I M (pl 0) 2 = nI n
theorem lq_keep {pl : Nat → Nat} {M M' : nt_M} (h : lq_T pl M M') (hE : lq_E pl M) : lq_E pl M' := by
  obtain ⟨t, n, a, b, c, d, e, f, g, i⟩ := hE
  have c18 := fun j => h 18 j (Or.inr (Or.inl rfl))
  exact ⟨t, n, a, b, (h 17 1 (Or.inl rfl)).trans c, (h 0 1 (Or.inr (Or.inr (Or.inr (Or.inr ⟨rfl, Or.inl rfl⟩))))).trans d, fun j => (h 8 j (Or.inr (Or.inr (Or.inl rfl)))).trans ((e j).trans (c18 j).symm), fun j => by rw [c18 j]; exact f j, (h 16 4 (Or.inr (Or.inr (Or.inr (Or.inl ⟨rfl, rfl⟩))))).trans g, (h 0 2 (Or.inr (Or.inr (Or.inr (Or.inr ⟨rfl, Or.inr rfl⟩))))).trans i⟩
theorem lq_ne {pl : Nat → Nat} {v : Nat → Int} {M : nt_M} (hB : ly_B pl v M) (g h : Nat) (hg : g < 66) (hh : h < 66) (e : g ≠ h) : pl g ≠ pl h := fun c => e (hB.1 g h hg hh c)
theorem lq_feed2 {X : nt_X} {pl : Nat → Nat} {v : Nat → Int} {M M1 M2 : nt_M} {y1 y2 a0 a1 a2 a3 a4 : Int32} (hB : ly_B pl v M) (hB1 : ly_B pl v M1) (hE : lq_E pl M) (e1 : nt_ev X 99 102 [.ref (pl 16), .int a0, .int a1, .int a2, .int a3, .int a4] M (some (.int y1), M1)) (e2 : nt_ev X 99 130 [.ref (pl 0), .int a0, .int a1, .int a2, .int a3, .int a4] M1 (some (.int y2), M2)) : y1 = y2 ∧ lq_E pl M2 := by
  have hE0 := hE
  obtain ⟨t, n, ht, hn, h17, h01, h8, hb, h16, h02⟩ := hE
  have ne := lq_ne hB
  have g18 := hB.2.1.2 18 _ (show ly_E.2.1[18]? = some (12, 400, 400, 0) from rfl)
  have g8 := hB1.2.1.2 8 _ (show ly_E.2.1[8]? = some (12, 400, 400, 0) from rfl)
  have rT := ly_ref (g := 16) (j := 0) (k := 17) hB (List.mem_of_getElem? (i := 0) rfl)
  have rY := ly_ref (g := 17) (j := 0) (k := 18) hB (List.mem_of_getElem? (i := 28) rfl)
  have rB := ly_ref (g := 0) (j := 0) (k := 8) hB1 (List.mem_of_getElem? (i := 20) rfl)
  rcases lq_feedC (J := nt_I M) rT rY (ne 18 17 (by omega) (by omega) (by decide)) g18.2.1 h17 ht e1 with ⟨c, e⟩ | ⟨c, J1, e, l1, w1, f1, o1⟩
  · obtain ⟨ey, eM⟩ := lq_out e
    have eM : M1 = M := eM
    subst eM
    rcases lq_feedR (J := nt_I M1) rB (ne 8 0 (by omega) (by omega) (by decide)) g8.2.1 h01 ht e2 with ⟨c2, e⟩ | ⟨c2, _⟩
    · obtain ⟨ey2, eM2⟩ := lq_out e
      have eM2 : M2 = M1 := eM2
      subst eM2
      exact ⟨by rw [ey, ey2], hE0⟩
    · omega
  · obtain ⟨ey, eM⟩ := lq_out e
    have i1 : nt_I M1 = J1 := by rw [eM]; rfl
    have h01' : nt_I M1 (pl 0) 1 = nI t := by rw [i1, o1 _ (ne 0 17 (by omega) (by omega) (by decide)) (ne 0 18 (by omega) (by omega) (by decide))]; exact h01
    rcases lq_feedR (J := nt_I M1) rB (ne 8 0 (by omega) (by omega) (by decide)) g8.2.1 h01' ht e2 with ⟨c2, _⟩ | ⟨c2, J2, e, l2, w2, f2, o2⟩
    · omega
    · obtain ⟨ey2, eM2⟩ := lq_out e
      have i2 : nt_I M2 = J2 := by rw [eM2]; rfl
      refine ⟨by rw [ey, ey2], t + 20, n, by omega, hn, ?_, ?_, fun j => ?_, fun j => ?_, ?_, ?_⟩
      · rw [i2, o2 _ (ne 17 0 (by omega) (by omega) (by decide)) (ne 17 8 (by omega) (by omega) (by decide)), i1]
        exact l1
      · rw [i2]
        exact l2
      · rw [i2, w2, o2 _ (ne 18 0 (by omega) (by omega) (by decide)) (ne 18 8 (by omega) (by omega) (by decide)), i1, w1, o1 _ (ne 8 17 (by omega) (by omega) (by decide)) (ne 8 18 (by omega) (by omega) (by decide)), show nt_I M (pl 8) = nt_I M (pl 18) from funext h8]
      · rw [i2, o2 _ (ne 18 0 (by omega) (by omega) (by decide)) (ne 18 8 (by omega) (by omega) (by decide)), i1, w1]
        exact lq_wb (lq_wb (lq_wb (lq_wb (lq_wb hb)))) j
      · rw [i2, o2 _ (ne 16 0 (by omega) (by omega) (by decide)) (ne 16 8 (by omega) (by omega) (by decide)), i1, o1 _ (ne 16 17 (by omega) (by omega) (by decide)) (ne 16 18 (by omega) (by omega) (by decide))]
        exact h16
      · rw [i2, f2 2 (by decide), i1, o1 _ (ne 0 17 (by omega) (by omega) (by decide)) (ne 0 18 (by omega) (by omega) (by decide))]
        exact h02
theorem lq_end2 {X : nt_X} {pl : Nat → Nat} {v : Nat → Int} {M M1 M2 : nt_M} {y1 y2 a : Int32} (hB : ly_B pl v M) (hE : lq_E pl M) (e1 : nt_ev X 99 103 [.ref (pl 16), .int a] M (some (.int y1), M1)) (e2 : nt_ev X 99 132 [.ref (pl 0), .int a] M1 (some (.int y2), M2)) : y1 = y2 ∧ lq_E pl M2 := by
  have hE0 := hE
  obtain ⟨t, n, ht, hn, h17, h01, h8, hb, h16, h02⟩ := hE
  have ne := lq_ne hB
  have rT := ly_ref (g := 16) (j := 0) (k := 17) hB (List.mem_of_getElem? (i := 0) rfl)
  rcases lq_endC (J := nt_I M) rT h17 e1 with ⟨c, e⟩ | ⟨c, c', e⟩
  · obtain ⟨ey, eM⟩ := lq_out e
    have eM : M1 = M := eM
    subst eM
    rcases lq_endR (J := nt_I M1) h01 e2 with ⟨c2, e⟩ | ⟨c2, c3, _⟩
    · obtain ⟨ey2, eM2⟩ := lq_out e
      have eM2 : M2 = M1 := eM2
      subst eM2
      exact ⟨by rw [ey, ey2], hE0⟩
    · exact absurd c (fun c => c.elim c2 (fun c => c c3))
  · obtain ⟨ey, eM⟩ := lq_out e
    have i1 : nt_I M1 = nt_u (nt_I M) (pl 17) 1 a := by rw [eM]; rfl
    have h01' : nt_I M1 (pl 0) 1 = nI t := by rw [i1, me_uo (ne 0 17 (by omega) (by omega) (by decide))]; exact h01
    rcases lq_endR (J := nt_I M1) h01' e2 with ⟨c2, e⟩ | ⟨c2, c3, e⟩
    · exact absurd c2 (fun h => h.elim c (fun h => h c'))
    · obtain ⟨ey2, eM2⟩ := lq_out e
      have i2 : nt_I M2 = nt_u (nt_I M1) (pl 0) 1 a := by rw [eM2]; rfl
      have a0 : 0 ≤ a.toInt := by
        have : ¬ a.toInt < (0 : Int32).toInt := fun h => c (Int32.lt_iff_toInt_lt.mpr h)
        have z : (0 : Int32).toInt = 0 := by decide
        omega
      have a1 : a.toInt ≤ t := by
        have := Int32.le_iff_toInt_le.mp c'
        rw [nI_toInt (by omega)] at this
        exact this
      have ea : a = nI a.toInt.toNat := Int32.toInt_inj.mp (by rw [nI_toInt (by omega)]; omega)
      refine ⟨by rw [ey, ey2], a.toInt.toNat, n, by omega, hn, ?_, ?_, fun j => ?_, fun j => ?_, ?_, ?_⟩
      · rw [i2, me_uo (ne 17 0 (by omega) (by omega) (by decide)), i1, me_us]
        exact ea
      · rw [i2, me_us]
        exact ea
      · rw [i2, me_uo (ne 8 0 (by omega) (by omega) (by decide)), me_uo (ne 18 0 (by omega) (by omega) (by decide)), i1, me_uo (ne 8 17 (by omega) (by omega) (by decide)), me_uo (ne 18 17 (by omega) (by omega) (by decide))]
        exact h8 j
      · rw [i2, me_uo (ne 18 0 (by omega) (by omega) (by decide)), i1, me_uo (ne 18 17 (by omega) (by omega) (by decide))]
        exact hb j
      · rw [i2, me_uo (ne 16 0 (by omega) (by omega) (by decide)), i1, me_uo (ne 16 17 (by omega) (by omega) (by decide))]
        exact h16
      · rw [i2, me_uk (by decide), i1, me_uo (ne 0 17 (by omega) (by omega) (by decide))]
        exact h02
theorem lc_Qf {J0 J : Nat → Nat → Int32} {Rd RR Sp t : Nat} {r : lb_Y} (h : lc_Q J0 Rd RR Sp t r J) (a : Nat) (h1 : a ≠ Rd) (h2 : a ≠ RR) (h3 : a ≠ Sp) : J a = J0 a := by
  cases r with
  | inl c =>
    obtain ⟨_, m, s, hS⟩ := h
    exact hS.2.2.2.2.2.1 a h1 h2 h3
  | inr z => exact h.1.2.2.2.2.2.1 a h1 h2 h3
/-! rules -/
theorem mg_c2_lb {f : Nat → Int32} {t x : Nat} : ∀ (k i : Nat) (z : lb_Z) (r : lb_Y) (cl : Nat → Int32) (cc : Nat) (cl' : Nat → Int32) (cc' : Nat), mg_c2 f t x k i z r cl cc cl' cc' → lb_c2 f t k i z r := by
  intro k
  induction k with
  | zero => intro i z r cl cc cl' cc' h; exact h
  | succ k ih =>
    intro i z r cl cc cl' cc' h
    rcases h with ⟨g, r1, cl1, cc1, h1, h2⟩ | ⟨g, h, _⟩ | h
    · exact Or.inl ⟨g, r1, h1.1, lb_th_up (fun z1 q => ih _ _ _ _ _ _ _ q) h2⟩
    · exact Or.inr (Or.inl ⟨g, h⟩)
    · exact Or.inr (Or.inr h)
theorem zIv_ru2 {f : Nat → Int32} {t x k : Nat} {zf : lb_Z} {cl0 cl' g' h' : Nat → Int32} {cc' : Nat} (ht : t ≤ 400) (h : lb_cs f t k 0 (lb_s f t 0, 0, ((0, fun _ => 0), (0, fun _ => 0))) (.inr zf)) (h3 : mg_c3 f t x (lb_s f t 0, 0, ((0, fun _ => 0), (0, fun _ => 0))) (.inr zf) cl0 cl' cc') (hg : ∀ j, j < zf.2.2.1.1 → g' j = zf.2.2.1.2 j) (hh : ∀ j, j < zf.2.2.2.1 → h' j = zf.2.2.2.2 j) : zRu g' h' (fun j => cl' (48 * x + j)) cc' zf.2.2.1.1 := by
  obtain ⟨r1, cl1, cc1, h1, h2⟩ := h3
  have q := lb_s_le (f := f) (t := t) t 0 (by omega)
  have hI : zIv t x (lb_s f t 0, 0, ((0, fun _ => 0), (0, fun _ => 0))) cl0 0 := ⟨q.2, Nat.zero_le _, Nat.zero_le _, Nat.le_refl _, fun _ => 0, rfl, rfl, fun i hi => by omega⟩
  have z := zIv_k ht k 0 _ zf r1 cl0 cl1 cl' 0 cc1 cc' hI h h1 h2
  obtain ⟨pl, hm, hl, hd, pos, p0, pc, hp⟩ := z
  refine ⟨pos, p0, pc, fun i hi => ?_⟩
  have hb := (hp i hi).1
  have := (zCb_l (zCb_ag (hp i hi).2 (fun j hj => hg j (by omega)) hh (fun _ _ => rfl) (Nat.le_refl _)) (by omega)).1
  have e : (fun r => cl' (48 * x + 4 * i + r)) = (fun r => (fun j => cl' (48 * x + j)) (4 * i + r)) := by
    funext r
    show _ = cl' (48 * x + (4 * i + r))
    rw [Nat.add_assoc]
  rw [e] at this
  exact this
theorem zRQ_ag2 {p : Nat → Nat} {sp ln T : Nat} {Jc Jr Jc' Jr' : Nat → Nat → Int32} (h : zRQ p sp ln T Jc Jr) (hc : Jc' sp = Jc sp) (h1 : ∀ j, j < 400 → Jr' (p 1) (400 * T + j) = Jr (p 1) (400 * T + j)) (h2 : ∀ j, j < 48 → Jr' (p 2) (48 * T + j) = Jr (p 2) (48 * T + j)) (h3 : Jr' (p 3) T = Jr (p 3) T) : zRQ p sp ln T Jc' Jr' := by
  obtain ⟨a, b, c, g, h, cl, k, d1, d2, d3, d4, d5, d6⟩ := h
  exact ⟨a, b, c, g, h, cl, k, d1, fun j hj => by rw [hc]; exact d2 j hj, fun j hj => by rw [h1 j hj]; exact d3 j hj, fun j hj => by rw [h2 j hj]; exact d4 j hj, by rw [h3]; exact d5, d6⟩
theorem zz_rule2 {X : nt_X} {pl : Nat → Nat} {v v' mk xi : Nat → Int} {M M1 M2 : nt_M} {y1 y2 : Int32} (hB : ly_B pl v M) (hB1 : ly_B pl v' M1) (hS : ly_S pl mk xi (v 2) M) (hZ : zz_E pl M) (hE : lq_E pl M) (hn2 : nt_n M ≤ nt_n M1) (hS1 : ly_S pl mk xi (v' 2) M1) (hp : ∀ g, g < 66 → pl g < nt_n M) (hR : lq_R X pl v v' 98 y1 M M1) (e2 : nt_ev X 99 133 [.ref (pl 0)] M1 (some (.int y2), M2)) : y1 = y2 ∧ lq_E pl M2 ∧ zz_E pl M2 := by
  have hE0 := hE
  obtain ⟨t, n, ht, hn, h17, h01, h8, hb, h16, h02⟩ := hE
  have ne := lq_ne hB
  have vn : v 2 = (n : Int) := by
    have := ly_vI hB
    rw [h16, nI_toInt (by omega)] at this
    exact this.symm
  have hO : md_O M1 (pl 0) (pl 8) (pl 1) (pl 10) (pl 9) := ⟨ly_ref (g := 0) (j := 22) (k := 9) hB1 (List.mem_of_getElem? (i := 21) rfl), ⟨ne 9 0 (by omega) (by omega) (by decide), ne 9 8 (by omega) (by omega) (by decide), ne 9 1 (by omega) (by omega) (by decide), ne 9 10 (by omega) (by omega) (by decide)⟩, by have := (hB1.2.1.2 9 _ (show ly_E.2.1[9]? = some (13, 400, 400, 0) from rfl)).2.2.1; dsimp only at this; omega, lq_sp hB1 (show ly_E.2.1[9]? = some (13, 400, 400, 0) from rfl)⟩
  have hK2 : mg_K2 (pl 9) (pl 2) (pl 3) := ⟨ne 2 9 (by omega) (by omega) (by decide), ne 3 9 (by omega) (by omega) (by decide), ne 2 3 (by omega) (by omega) (by decide)⟩
  have hK : md_K M1 (pl 0) (pl 8) (pl 1) (pl 10) (pl 2) (pl 3) := ⟨ly_ref (g := 0) (j := 5) (k := 2) hB1 (List.mem_of_getElem? (i := 14) rfl), ly_ref (g := 0) (j := 6) (k := 3) hB1 (List.mem_of_getElem? (i := 15) rfl), ⟨ne 2 0 (by omega) (by omega) (by decide), ne 2 8 (by omega) (by omega) (by decide), ne 2 1 (by omega) (by omega) (by decide), ne 2 10 (by omega) (by omega) (by decide)⟩, ⟨ne 3 0 (by omega) (by omega) (by decide), ne 3 8 (by omega) (by omega) (by decide), ne 3 1 (by omega) (by omega) (by decide), ne 3 10 (by omega) (by omega) (by decide)⟩, lq_sp hB1 (show ly_E.2.1[2]? = some (13, 288, 288, 0) from rfl), lq_sp hB1 (show ly_E.2.1[3]? = some (13, 6, 6, 14) from rfl)⟩
  have hP0 : nt_I M1 (pl 0) 1 = nI t → (∀ j, nt_I M1 (pl 8) j = nt_I M (pl 18) j) → mg_P0 M1 (nt_I M1) (nt_I M (pl 18)) t (pl 0) (pl 8) (pl 1) (pl 10) := fun q1 q2 => ⟨⟨ly_ref (g := 0) (j := 0) (k := 8) hB1 (List.mem_of_getElem? (i := 20) rfl), ly_ref (g := 0) (j := 3) (k := 1) hB1 (List.mem_of_getElem? (i := 13) rfl), ly_ref (g := 0) (j := 4) (k := 10) hB1 (List.mem_of_getElem? (i := 22) rfl)⟩, ⟨ne 8 0 (by omega) (by omega) (by decide), ne 8 1 (by omega) (by omega) (by decide), ne 8 10 (by omega) (by omega) (by decide), ne 0 1 (by omega) (by omega) (by decide), ne 0 10 (by omega) (by omega) (by decide), ne 1 10 (by omega) (by omega) (by decide)⟩, q1, q2, ht, by have := (hB1.2.1.2 1 _ (show ly_E.2.1[1]? = some (13, 2400, 2400, 0) from rfl)).2.2.1; dsimp only at this; omega, lq_sp hB1 (show ly_E.2.1[1]? = some (13, 2400, 2400, 0) from rfl), lq_sp hB1 (show ly_E.2.1[10]? = some (13, 7, 7, 13) from rfl)⟩
  have hby : lb_by (nt_I M (pl 18)) t := fun j _ => hb j
  rcases hR with ⟨c6, ey, eM⟩ | ⟨c6, x, MR, kr, q17, qo, qr, hx⟩
  · subst eM
    rcases mg_rule (J := nt_I M1) (hP0 h01 h8) hO hK hK2 hby h02 hn e2 with ⟨n6, e⟩ | ⟨n6, _⟩
    · obtain ⟨ey2, eM2⟩ := lq_out e
      have eM2 : M2 = M1 := eM2
      subst eM2
      exact ⟨by rw [ey, ey2], hE0, hZ⟩
    · omega
  · have hP : lc_P M (nt_I M) (nt_I M (pl 18)) t (pl 19) (pl 17) (pl 18) (pl 21) (pl 22) := ⟨⟨ly_ref (g := 19) (j := 0) (k := 17) hB (List.mem_of_getElem? (i := 12) rfl), ly_ref (g := 17) (j := 0) (k := 18) hB (List.mem_of_getElem? (i := 28) rfl), ly_ref (g := 21) (j := 0) (k := 19) hB (List.mem_of_getElem? (i := 10) rfl), ly_ref (g := 21) (j := 1) (k := 22) hB (List.mem_of_getElem? (i := 11) rfl)⟩, ⟨ne 17 19 (by omega) (by omega) (by decide), ne 17 21 (by omega) (by omega) (by decide), ne 17 22 (by omega) (by omega) (by decide), ne 18 19 (by omega) (by omega) (by decide), ne 18 21 (by omega) (by omega) (by decide), ne 18 22 (by omega) (by omega) (by decide), ne 19 21 (by omega) (by omega) (by decide), ne 19 22 (by omega) (by omega) (by decide), ne 21 22 (by omega) (by omega) (by decide)⟩, h17, fun _ => rfl, ht, by have := (hB.2.1.2 22 _ (show ly_E.2.1[22]? = some (13, 400, 400, 0) from rfl)).2.2.1; dsimp only at this; omega, lq_sp hB (show ly_E.2.1[22]? = some (13, 400, 400, 0) from rfl)⟩
    obtain ⟨k0, r, J1, e, hcs, hQ⟩ := lc_read (J := nt_I M) (E2 := (0, fun _ => 0)) hP (fun _ _ _ _ => rfl) kr
    obtain ⟨ex, eMR⟩ := lq_out e
    have iR : nt_I MR = J1 := by rw [eMR]; rfl
    have old : ∀ g, g < 66 → g ≠ 19 → g ≠ 21 → g ≠ 22 → nt_I MR (pl g) = nt_I M (pl g) := fun g hg a1 a2 a3 => by
      rw [iR]
      exact lc_Qf hQ (pl g) (ne g 19 hg (by omega) a1) (ne g 21 hg (by omega) a2) (ne g 22 hg (by omega) a3)
    have o1 : ∀ g j, lq_c g j → g ≠ 17 → g ≠ 16 → nt_I M1 (pl g) j = nt_I M (pl g) j := fun g j hc a1 a2 => by
      rw [qo (pl g) j (hp g (lq_c66 hc)) (ne g 17 (lq_c66 hc) (by omega) a1) (ne g 16 (lq_c66 hc) (by omega) a2), old g (lq_c66 hc) (by rcases hc with h | h | h | h | h <;> omega) (by rcases hc with h | h | h | h | h <;> omega) (by rcases hc with h | h | h | h | h <;> omega)]
    have c01 : lq_c 0 1 := Or.inr (Or.inr (Or.inr (Or.inr ⟨rfl, Or.inl rfl⟩)))
    have c02 : lq_c 0 2 := Or.inr (Or.inr (Or.inr (Or.inr ⟨rfl, Or.inr rfl⟩)))
    have c8 : ∀ j, lq_c 8 j := fun j => Or.inr (Or.inr (Or.inl rfl))
    have c18 : ∀ j, lq_c 18 j := fun j => Or.inr (Or.inl rfl)
    have m01 : nt_I M1 (pl 0) 1 = nI t := (o1 0 1 c01 (by decide) (by decide)).trans h01
    have m02 : nt_I M1 (pl 0) 2 = nI n := (o1 0 2 c02 (by decide) (by decide)).trans h02
    have m8 : ∀ j, nt_I M1 (pl 8) j = nt_I M (pl 18) j := fun j => (o1 8 j (c8 j) (by decide) (by decide)).trans (h8 j)
    have m18 : ∀ j, nt_I M1 (pl 18) j = nt_I M (pl 18) j := fun j => o1 18 j (c18 j) (by decide) (by decide)
    have v16 := ly_vI hB1
    rcases mg_rule (J := nt_I M1) (hP0 m01 m8) hO hK hK2 hby m02 hn e2 with ⟨n6, _⟩ | ⟨n6, r', J2, cl', cc', h3, hw, w1, fr, hX⟩
    · omega
    · have h30 := h3
      obtain ⟨ra, cl1, cc1, ca, cb⟩ := h3
      have er := lb_cs_det k0 0 _ r r' ra hcs ca.1 (lb_th_up (fun z1 ⟨k, q⟩ => ⟨k, mg_c2_lb _ _ _ _ _ _ _ _ q⟩) cb)
      subst er
      have fo : ∀ g, g < 66 → g ≠ 0 → g ≠ 1 → g ≠ 10 → g ≠ 9 → g ≠ 2 → g ≠ 3 → J2 (pl g) = nt_I M1 (pl g) := fun g hg a1 a2 a3 a4 a5 a6 => fr (pl g) (ne g 0 hg (by omega) a1) (ne g 1 hg (by omega) a2) (ne g 10 hg (by omega) a3) (ne g 9 hg (by omega) a4) (ne g 2 hg (by omega) a5) (ne g 3 hg (by omega) a6)
      have fin : ∀ n', n' ≤ 6 → nt_I M1 (pl 16) 4 = nI n' → J2 (pl 0) 2 = nI n' → M2 = me_w M1 J2 → lq_E pl M2 := by
        intro n' hn' q16 q02 eM2
        have i2 : nt_I M2 = J2 := by rw [eM2]; rfl
        refine ⟨0, n', by omega, hn', ?_, ?_, fun j => ?_, fun j => ?_, ?_, ?_⟩
        · rw [i2, fo 17 (by omega) (by decide) (by decide) (by decide) (by decide) (by decide) (by decide)]
          exact q17
        · rw [i2]
          exact w1
        · rw [i2, fo 8 (by omega) (by decide) (by decide) (by decide) (by decide) (by decide) (by decide), fo 18 (by omega) (by decide) (by decide) (by decide) (by decide) (by decide) (by decide), m8 j, m18 j]
        · rw [i2, fo 18 (by omega) (by decide) (by decide) (by decide) (by decide) (by decide) (by decide), m18 j]
          exact hb j
        · rw [i2, fo 16 (by omega) (by decide) (by decide) (by decide) (by decide) (by decide) (by decide)]
          exact q16
        · rw [i2]
          exact q02
      have pn := hS.1.1
      have p66 := hS.1.2.2.2
      have reg1 : ∀ g, g < 66 → g ≠ 17 → g ≠ 16 → g ≠ 19 → g ≠ 21 → g ≠ 22 → nt_I M1 (pl g) = nt_I M (pl g) := fun g hg a1 a2 a3 a4 a5 => by
        funext j
        rw [qo (pl g) j (hp g hg) (ne g 17 hg (by omega) a1) (ne g 16 hg (by omega) a2), old g hg a3 a4 a5]
      have reg : ∀ g, g < 66 → g ≠ 17 → g ≠ 16 → g ≠ 19 → g ≠ 21 → g ≠ 22 → g ≠ 0 → g ≠ 1 → g ≠ 10 → g ≠ 9 → g ≠ 2 → g ≠ 3 → J2 (pl g) = nt_I M (pl g) := fun g hg a1 a2 a3 a4 a5 b1 b2 b3 b4 b5 b6 => (fo g hg b1 b2 b3 b4 b5 b6).trans (reg1 g hg a1 a2 a3 a4 a5)
      have o66 : ∀ a, 66 ≤ a → ∀ g, g < 66 → a ≠ pl g := fun a ha g hg e => by have := pn g hg; omega
      have out2 : ∀ a, 66 ≤ a → J2 a = nt_I M1 a := fun a ha => fr a (o66 a ha 0 (by omega)) (o66 a ha 1 (by omega)) (o66 a ha 10 (by omega)) (o66 a ha 9 (by omega)) (o66 a ha 2 (by omega)) (o66 a ha 3 (by omega))
      have out : ∀ a, 66 ≤ a → a < nt_n M → J2 a = nt_I M a := fun a ha hn => by
        rw [out2 a ha]
        funext j
        rw [qo a j hn (o66 a ha 17 (by omega)) (o66 a ha 16 (by omega)), iR, lc_Qf hQ a (o66 a ha 19 (by omega)) (o66 a ha 21 (by omega)) (o66 a ha 22 (by omega))]
      have now2 : zz_R (fun i => pl (31 + i)) J2 (J2 (pl 4)) := by
        rw [reg 4 (by omega) (by decide) (by decide) (by decide) (by decide) (by decide) (by decide) (by decide) (by decide) (by decide) (by decide) (by decide)]
        exact zz_Rag (fun i hi => reg (31 + i) (by omega) (by omega) (by omega) (by omega) (by omega) (by omega) (by omega) (by omega) (by omega) (by omega) (by omega) (by omega)) hZ.1
      have img2 : ∀ k, k < 4 → ∀ a, nt_R M1 (pl 65) k = some a → (66 ≤ a ∧ a + 17 ≤ nt_n M1) ∧ zz_R (fun i => a + i) J2 (zim J2 (pl 14) k) := fun k hk a ha => by
        rw [qr k] at ha
        obtain ⟨h1, h2⟩ := hZ.2.1 k hk a ha
        refine ⟨⟨h1.1, by omega⟩, zz_Rag (fun i hi => out _ (by omega) (by omega)) ?_⟩
        unfold zim
        rw [reg 14 (by omega) (by decide) (by decide) (by decide) (by decide) (by decide) (by decide) (by decide) (by decide) (by decide) (by decide) (by decide)]
        exact h2
      have eS := reg1 1 (by omega) (by decide) (by decide) (by decide) (by decide) (by decide)
      have eC := reg1 2 (by omega) (by decide) (by decide) (by decide) (by decide) (by decide)
      have eD := reg1 3 (by omega) (by decide) (by decide) (by decide) (by decide) (by decide)
      have oldr : ∀ u' b', u' < 6 → nt_R M (pl 23) u' = some b' → nt_l M1 (b' + 1) = nt_l M (b' + 1) → (66 ≤ b' ∧ b' + 2 ≤ nt_n M1 ∧ u' < n) ∧ zRQ pl (b' + 1) (nt_l M1 (b' + 1)) u' J2 J2 := fun u' b' hu hb hl => by
        obtain ⟨⟨h1, h2, h3⟩, h4⟩ := hZ.2.2 u' b' hu hb
        rw [h16, nI_toInt (by omega)] at h3
        refine ⟨⟨h1, by omega, by omega⟩, ?_⟩
        rw [hl]
        refine zRQ_ag2 h4 (out _ (by omega) (by omega)) (fun j hj => ?_) (fun j hj => ?_) ?_
        · rw [hX.1 _ (by omega), eS]
        · rw [hX.2.1 _ (by omega), eC]
        · rw [hX.2.2.1 _ (by omega), eD]
      have m16 : ∀ q, nt_I M1 (pl 16) 4 = nI q → q ≤ 6 → (J2 (pl 16) 4).toInt = q := fun q h hq => by
        rw [fo 16 (by omega) (by decide) (by decide) (by decide) (by decide) (by decide) (by decide), h, nI_toInt (by omega)]
      rcases hw with ⟨hrc, e, w2⟩ | ⟨hrc, e, w2⟩ <;> rcases hx with ⟨hx0, ey, ev, q23, ql⟩ | ⟨hx0, ev, u, eu, ey, sz, b, hsz, s21, b66, bn, q23, ql, qc, qld⟩
      · obtain ⟨ey2, eM2⟩ := lq_out e
        have h164 : nt_I M1 (pl 16) 4 = nI n := Int32.toInt_inj.mp (by rw [v16, ev, vn, nI_toInt (by omega)])
        refine ⟨by rw [ey, ey2, ex], fin n hn h164 w2 eM2, ?_⟩
        subst eM2
        refine ⟨now2, img2, fun u' b' hu' hb' => ?_⟩
        have hb' : nt_R M1 (pl 23) u' = some b' := hb'
        rw [q23] at hb'
        obtain ⟨⟨x1, x2, x3⟩, x4⟩ := oldr u' b' hu' hb' (ql _)
        refine ⟨⟨x1, x2, ?_⟩, x4⟩
        show (u' : Int) < (J2 (pl 16) 4).toInt
        rw [m16 n h164 hn]
        omega
      · rw [ex] at hx0
        exact absurd hx0 hrc
      · rw [ex] at hx0
        exact absurd hrc hx0
      · obtain ⟨ey2, eM2⟩ := lq_out e
        have eun : u = n := by omega
        subst eun
        have h164 : nt_I M1 (pl 16) 4 = nI (u + 1) := Int32.toInt_inj.mp (by rw [v16, ev, vn, nI_toInt (by omega)]; omega)
        refine ⟨by rw [ey, ey2], fin (u + 1) (by omega) h164 w2 eM2, ?_⟩
        subst eM2
        obtain ⟨zf, erz⟩ : ∃ zf, r = .inr zf := by
          cases r with
          | inl c => exact absurd hrc hQ.1
          | inr z => exact ⟨z, rfl⟩
        subst erz
        obtain ⟨x1, x2, x3, x4⟩ := hX.2.2.2 zf rfl
        obtain ⟨_, _, y3, _, y5, _, y7, _⟩ := hQ.1
        have esz : zf.2.2.1.1 = sz := by
          have : nI sz = nI zf.2.2.1.1 := by rw [← s21, iR]; exact y3
          have := congrArg Int32.toInt this
          rw [nI_toInt (by omega), nI_toInt (by omega)] at this
          omega
        refine ⟨now2, img2, fun u' b' hu' hb' => ?_⟩
        have hb' : nt_R M1 (pl 23) u' = some b' := hb'
        rw [q23] at hb'
        by_cases eu' : u' = u
        · rw [if_pos eu'] at hb'
          have eb := Option.some.inj hb'
          subst eb
          subst eu'
          refine ⟨⟨b66, ?_, ?_⟩, ?_, ?_, hu', fun j => J2 (b + 1) j, fun j => J2 (pl 1) (400 * u' + j), fun j => cl' (48 * u' + j), cc', x4, fun _ _ => rfl, fun _ _ => rfl, fun j _ => x2 _, ?_, ?_⟩
          · obtain ⟨_, _, T, _, hT⟩ := hS1
            obtain ⟨b2, c1, _, c2, _⟩ := hT u' (by omega)
            rw [q23, if_pos rfl] at c1
            have c1 := Option.some.inj c1
            show b + 2 ≤ nt_n M1
            omega
          · show (u' : Int) < (J2 (pl 16) 4).toInt
            rw [m16 _ h164 (by omega)]
            omega
          · exact o66 _ (by omega) 25 (by omega)
          · show nt_l M1 (b + 1) ≤ 400
            omega
          · show (J2 (pl 3) u').toInt = _
            rw [x3, nI_toInt (by omega)]
          · show zRu _ _ _ _ (nt_l M1 (b + 1))
            rw [ql, ← esz]
            refine zIv_ru2 ht hcs h30 (fun j hj => ?_) (fun j hj => x1 j hj)
            rw [out2 _ (by omega), qc j (by omega), iR]
            exact y5 j hj
        · rw [if_neg eu'] at hb'
          have hb2 := (hZ.2.2 u' b' hu' hb').1
          obtain ⟨⟨x1, x2, x3⟩, x4⟩ := oldr u' b' hu' hb' (qld _ (by omega))
          refine ⟨⟨x1, x2, ?_⟩, x4⟩
          show (u' : Int) < (J2 (pl 16) 4).toInt
          rw [m16 _ h164 (by omega)]
          omega
