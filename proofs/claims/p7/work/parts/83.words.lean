/-! a packed word is the word -/
theorem lb_w_kinds {f : Nat → Int32} {t p : Nat} : lb_iw f t p (461330343027 : Int64) ↔ lb_at f t (lb_W (nt_sp + 1 + 0)) p := by
  have hW : lb_W (nt_sp + 1 + 0) = [107, 105, 110, 100, 115] := by decide +kernel
  have hV : (461330343027 : Int64).toBitVec.toNat = 461330343027 := by decide +kernel
  constructor
  · intro ⟨h0, h8, hc⟩
    obtain ⟨hl, hn⟩ := lb_l_let (f := f) (t := t) _ p rfl
    have e := lg_cmp0 hc
    obtain ⟨a, _⟩ := lb_pkn (lb_l f t p) (by omega) hl
    rw [e, hV] at a
    clear e hc
    generalize lb_l f t p = n at *
    rcases (by omega : n = 1 ∨ n = 2 ∨ n = 3 ∨ n = 4 ∨ n = 5 ∨ n = 6 ∨ n = 7) with rfl | rfl | rfl | rfl | rfl | rfl | rfl
    · have b0 := lb_let_b (hl 0 (by omega))
      simp only [lb_pn] at a
      omega
    · have b0 := lb_let_b (hl 0 (by omega))
      have b1 := lb_let_b (hl 1 (by omega))
      simp only [lb_pn] at a
      omega
    · have b0 := lb_let_b (hl 0 (by omega))
      have b1 := lb_let_b (hl 1 (by omega))
      have b2 := lb_let_b (hl 2 (by omega))
      simp only [lb_pn] at a
      omega
    · have b0 := lb_let_b (hl 0 (by omega))
      have b1 := lb_let_b (hl 1 (by omega))
      have b2 := lb_let_b (hl 2 (by omega))
      have b3 := lb_let_b (hl 3 (by omega))
      simp only [lb_pn] at a
      omega
    · have b0 := lb_let_b (hl 0 (by omega))
      have b1 := lb_let_b (hl 1 (by omega))
      have b2 := lb_let_b (hl 2 (by omega))
      have b3 := lb_let_b (hl 3 (by omega))
      have b4 := lb_let_b (hl 4 (by omega))
      simp only [lb_pn] at a
      have v0 : (f (p + 0)).toInt = 107 := by omega
      have v1 : (f (p + 1)).toInt = 105 := by omega
      have v2 : (f (p + 2)).toInt = 110 := by omega
      have v3 : (f (p + 3)).toInt = 100 := by omega
      have v4 : (f (p + 4)).toInt = 115 := by omega
      have hq := (hl 4 (by omega)).1
      rw [hW]
      refine ⟨by show p + 5 ≤ t; omega, fun i hi => ?_, hn⟩
      have hi : i < 5 := hi
      rcases (by omega : i = 0 ∨ i = 1 ∨ i = 2 ∨ i = 3 ∨ i = 4) with rfl | rfl | rfl | rfl | rfl
      · exact Int32.toInt_inj.mp v0
      · exact Int32.toInt_inj.mp v1
      · exact Int32.toInt_inj.mp v2
      · exact Int32.toInt_inj.mp v3
      · exact Int32.toInt_inj.mp v4
    · have b0 := lb_let_b (hl 0 (by omega))
      have b1 := lb_let_b (hl 1 (by omega))
      have b2 := lb_let_b (hl 2 (by omega))
      have b3 := lb_let_b (hl 3 (by omega))
      have b4 := lb_let_b (hl 4 (by omega))
      have b5 := lb_let_b (hl 5 (by omega))
      simp only [lb_pn] at a
      omega
    · have b0 := lb_let_b (hl 0 (by omega))
      have b1 := lb_let_b (hl 1 (by omega))
      have b2 := lb_let_b (hl 2 (by omega))
      have b3 := lb_let_b (hl 3 (by omega))
      have b4 := lb_let_b (hl 4 (by omega))
      have b5 := lb_let_b (hl 5 (by omega))
      have b6 := lb_let_b (hl 6 (by omega))
      simp only [lb_pn] at a
      omega
  · intro h
    rw [hW] at h
    obtain ⟨h1, h2, h3⟩ := h
    have h1 : p + 5 ≤ t := h1
    have v0 : f (p + 0) = 107 := h2 0 (by decide)
    have v1 : f (p + 1) = 105 := h2 1 (by decide)
    have v2 : f (p + 2) = 110 := h2 2 (by decide)
    have v3 : f (p + 3) = 100 := h2 3 (by decide)
    have v4 : f (p + 4) = 115 := h2 4 (by decide)
    have hl : ∀ i, i < 5 → lb_let f t (p + i) := by
      intro i hi
      refine ⟨by omega, ?_⟩
      rcases (by omega : i = 0 ∨ i = 1 ∨ i = 2 ∨ i = 3 ∨ i = 4) with rfl | rfl | rfl | rfl | rfl
      · rw [v0]; decide
      · rw [v1]; decide
      · rw [v2]; decide
      · rw [v3]; decide
      · rw [v4]; decide
    have el := lb_l_eq (f := f) (t := t) 5 p hl h3
    unfold lb_iw
    rw [el]
    refine ⟨by decide, by decide, ?_⟩
    obtain ⟨a, _⟩ := lb_pkn 5 (by decide) hl
    have e : lb_pn f p 5 = 461330343027 := by
      simp only [lb_pn, v0, v1, v2, v3, v4]
      decide +kernel
    have e2 : lb_pk f p 5 = (461330343027 : Int64) := by
      apply Int64.toBitVec_inj.mp
      apply BitVec.eq_of_toNat_eq
      rw [a, e, hV]
    rw [e2]
    exact lg_cmp1
theorem lb_w_ship {f : Nat → Int32} {t p : Nat} : lb_iw f t p (1936222576 : Int64) ↔ lb_at f t (lb_W (nt_sp + 1 + 1)) p := by
  have hW : lb_W (nt_sp + 1 + 1) = [115, 104, 105, 112] := by decide +kernel
  have hV : (1936222576 : Int64).toBitVec.toNat = 1936222576 := by decide +kernel
  constructor
  · intro ⟨h0, h8, hc⟩
    obtain ⟨hl, hn⟩ := lb_l_let (f := f) (t := t) _ p rfl
    have e := lg_cmp0 hc
    obtain ⟨a, _⟩ := lb_pkn (lb_l f t p) (by omega) hl
    rw [e, hV] at a
    clear e hc
    generalize lb_l f t p = n at *
    rcases (by omega : n = 1 ∨ n = 2 ∨ n = 3 ∨ n = 4 ∨ n = 5 ∨ n = 6 ∨ n = 7) with rfl | rfl | rfl | rfl | rfl | rfl | rfl
    · have b0 := lb_let_b (hl 0 (by omega))
      simp only [lb_pn] at a
      omega
    · have b0 := lb_let_b (hl 0 (by omega))
      have b1 := lb_let_b (hl 1 (by omega))
      simp only [lb_pn] at a
      omega
    · have b0 := lb_let_b (hl 0 (by omega))
      have b1 := lb_let_b (hl 1 (by omega))
      have b2 := lb_let_b (hl 2 (by omega))
      simp only [lb_pn] at a
      omega
    · have b0 := lb_let_b (hl 0 (by omega))
      have b1 := lb_let_b (hl 1 (by omega))
      have b2 := lb_let_b (hl 2 (by omega))
      have b3 := lb_let_b (hl 3 (by omega))
      simp only [lb_pn] at a
      have v0 : (f (p + 0)).toInt = 115 := by omega
      have v1 : (f (p + 1)).toInt = 104 := by omega
      have v2 : (f (p + 2)).toInt = 105 := by omega
      have v3 : (f (p + 3)).toInt = 112 := by omega
      have hq := (hl 3 (by omega)).1
      rw [hW]
      refine ⟨by show p + 4 ≤ t; omega, fun i hi => ?_, hn⟩
      have hi : i < 4 := hi
      rcases (by omega : i = 0 ∨ i = 1 ∨ i = 2 ∨ i = 3) with rfl | rfl | rfl | rfl
      · exact Int32.toInt_inj.mp v0
      · exact Int32.toInt_inj.mp v1
      · exact Int32.toInt_inj.mp v2
      · exact Int32.toInt_inj.mp v3
    · have b0 := lb_let_b (hl 0 (by omega))
      have b1 := lb_let_b (hl 1 (by omega))
      have b2 := lb_let_b (hl 2 (by omega))
      have b3 := lb_let_b (hl 3 (by omega))
      have b4 := lb_let_b (hl 4 (by omega))
      simp only [lb_pn] at a
      omega
    · have b0 := lb_let_b (hl 0 (by omega))
      have b1 := lb_let_b (hl 1 (by omega))
      have b2 := lb_let_b (hl 2 (by omega))
      have b3 := lb_let_b (hl 3 (by omega))
      have b4 := lb_let_b (hl 4 (by omega))
      have b5 := lb_let_b (hl 5 (by omega))
      simp only [lb_pn] at a
      omega
    · have b0 := lb_let_b (hl 0 (by omega))
      have b1 := lb_let_b (hl 1 (by omega))
      have b2 := lb_let_b (hl 2 (by omega))
      have b3 := lb_let_b (hl 3 (by omega))
      have b4 := lb_let_b (hl 4 (by omega))
      have b5 := lb_let_b (hl 5 (by omega))
      have b6 := lb_let_b (hl 6 (by omega))
      simp only [lb_pn] at a
      omega
  · intro h
    rw [hW] at h
    obtain ⟨h1, h2, h3⟩ := h
    have h1 : p + 4 ≤ t := h1
    have v0 : f (p + 0) = 115 := h2 0 (by decide)
    have v1 : f (p + 1) = 104 := h2 1 (by decide)
    have v2 : f (p + 2) = 105 := h2 2 (by decide)
    have v3 : f (p + 3) = 112 := h2 3 (by decide)
    have hl : ∀ i, i < 4 → lb_let f t (p + i) := by
      intro i hi
      refine ⟨by omega, ?_⟩
      rcases (by omega : i = 0 ∨ i = 1 ∨ i = 2 ∨ i = 3) with rfl | rfl | rfl | rfl
      · rw [v0]; decide
      · rw [v1]; decide
      · rw [v2]; decide
      · rw [v3]; decide
    have el := lb_l_eq (f := f) (t := t) 4 p hl h3
    unfold lb_iw
    rw [el]
    refine ⟨by decide, by decide, ?_⟩
    obtain ⟨a, _⟩ := lb_pkn 4 (by decide) hl
    have e : lb_pn f p 4 = 1936222576 := by
      simp only [lb_pn, v0, v1, v2, v3]
      decide +kernel
    have e2 : lb_pk f p 4 = (1936222576 : Int64) := by
      apply Int64.toBitVec_inj.mp
      apply BitVec.eq_of_toNat_eq
      rw [a, e, hV]
    rw [e2]
    exact lg_cmp1
theorem lb_w_plank {f : Nat → Int32} {t p : Nat} : lb_iw f t p (482854661739 : Int64) ↔ lb_at f t (lb_W (nt_sp + 1 + 2)) p := by
  have hW : lb_W (nt_sp + 1 + 2) = [112, 108, 97, 110, 107] := by decide +kernel
  have hV : (482854661739 : Int64).toBitVec.toNat = 482854661739 := by decide +kernel
  constructor
  · intro ⟨h0, h8, hc⟩
    obtain ⟨hl, hn⟩ := lb_l_let (f := f) (t := t) _ p rfl
    have e := lg_cmp0 hc
    obtain ⟨a, _⟩ := lb_pkn (lb_l f t p) (by omega) hl
    rw [e, hV] at a
    clear e hc
    generalize lb_l f t p = n at *
    rcases (by omega : n = 1 ∨ n = 2 ∨ n = 3 ∨ n = 4 ∨ n = 5 ∨ n = 6 ∨ n = 7) with rfl | rfl | rfl | rfl | rfl | rfl | rfl
    · have b0 := lb_let_b (hl 0 (by omega))
      simp only [lb_pn] at a
      omega
    · have b0 := lb_let_b (hl 0 (by omega))
      have b1 := lb_let_b (hl 1 (by omega))
      simp only [lb_pn] at a
      omega
    · have b0 := lb_let_b (hl 0 (by omega))
      have b1 := lb_let_b (hl 1 (by omega))
      have b2 := lb_let_b (hl 2 (by omega))
      simp only [lb_pn] at a
      omega
    · have b0 := lb_let_b (hl 0 (by omega))
      have b1 := lb_let_b (hl 1 (by omega))
      have b2 := lb_let_b (hl 2 (by omega))
      have b3 := lb_let_b (hl 3 (by omega))
      simp only [lb_pn] at a
      omega
    · have b0 := lb_let_b (hl 0 (by omega))
      have b1 := lb_let_b (hl 1 (by omega))
      have b2 := lb_let_b (hl 2 (by omega))
      have b3 := lb_let_b (hl 3 (by omega))
      have b4 := lb_let_b (hl 4 (by omega))
      simp only [lb_pn] at a
      have v0 : (f (p + 0)).toInt = 112 := by omega
      have v1 : (f (p + 1)).toInt = 108 := by omega
      have v2 : (f (p + 2)).toInt = 97 := by omega
      have v3 : (f (p + 3)).toInt = 110 := by omega
      have v4 : (f (p + 4)).toInt = 107 := by omega
      have hq := (hl 4 (by omega)).1
      rw [hW]
      refine ⟨by show p + 5 ≤ t; omega, fun i hi => ?_, hn⟩
      have hi : i < 5 := hi
      rcases (by omega : i = 0 ∨ i = 1 ∨ i = 2 ∨ i = 3 ∨ i = 4) with rfl | rfl | rfl | rfl | rfl
      · exact Int32.toInt_inj.mp v0
      · exact Int32.toInt_inj.mp v1
      · exact Int32.toInt_inj.mp v2
      · exact Int32.toInt_inj.mp v3
      · exact Int32.toInt_inj.mp v4
    · have b0 := lb_let_b (hl 0 (by omega))
      have b1 := lb_let_b (hl 1 (by omega))
      have b2 := lb_let_b (hl 2 (by omega))
      have b3 := lb_let_b (hl 3 (by omega))
      have b4 := lb_let_b (hl 4 (by omega))
      have b5 := lb_let_b (hl 5 (by omega))
      simp only [lb_pn] at a
      omega
    · have b0 := lb_let_b (hl 0 (by omega))
      have b1 := lb_let_b (hl 1 (by omega))
      have b2 := lb_let_b (hl 2 (by omega))
      have b3 := lb_let_b (hl 3 (by omega))
      have b4 := lb_let_b (hl 4 (by omega))
      have b5 := lb_let_b (hl 5 (by omega))
      have b6 := lb_let_b (hl 6 (by omega))
      simp only [lb_pn] at a
      omega
  · intro h
    rw [hW] at h
    obtain ⟨h1, h2, h3⟩ := h
    have h1 : p + 5 ≤ t := h1
    have v0 : f (p + 0) = 112 := h2 0 (by decide)
    have v1 : f (p + 1) = 108 := h2 1 (by decide)
    have v2 : f (p + 2) = 97 := h2 2 (by decide)
    have v3 : f (p + 3) = 110 := h2 3 (by decide)
    have v4 : f (p + 4) = 107 := h2 4 (by decide)
    have hl : ∀ i, i < 5 → lb_let f t (p + i) := by
      intro i hi
      refine ⟨by omega, ?_⟩
      rcases (by omega : i = 0 ∨ i = 1 ∨ i = 2 ∨ i = 3 ∨ i = 4) with rfl | rfl | rfl | rfl | rfl
      · rw [v0]; decide
      · rw [v1]; decide
      · rw [v2]; decide
      · rw [v3]; decide
      · rw [v4]; decide
    have el := lb_l_eq (f := f) (t := t) 5 p hl h3
    unfold lb_iw
    rw [el]
    refine ⟨by decide, by decide, ?_⟩
    obtain ⟨a, _⟩ := lb_pkn 5 (by decide) hl
    have e : lb_pn f p 5 = 482854661739 := by
      simp only [lb_pn, v0, v1, v2, v3, v4]
      decide +kernel
    have e2 : lb_pk f p 5 = (482854661739 : Int64) := by
      apply Int64.toBitVec_inj.mp
      apply BitVec.eq_of_toNat_eq
      rw [a, e, hV]
    rw [e2]
    exact lg_cmp1
theorem lb_w_voyage {f : Nat → Int32} {t p : Nat} : lb_iw f t p (130221149874021 : Int64) ↔ lb_at f t (lb_W (nt_sp + 1 + 3)) p := by
  have hW : lb_W (nt_sp + 1 + 3) = [118, 111, 121, 97, 103, 101] := by decide +kernel
  have hV : (130221149874021 : Int64).toBitVec.toNat = 130221149874021 := by decide +kernel
  constructor
  · intro ⟨h0, h8, hc⟩
    obtain ⟨hl, hn⟩ := lb_l_let (f := f) (t := t) _ p rfl
    have e := lg_cmp0 hc
    obtain ⟨a, _⟩ := lb_pkn (lb_l f t p) (by omega) hl
    rw [e, hV] at a
    clear e hc
    generalize lb_l f t p = n at *
    rcases (by omega : n = 1 ∨ n = 2 ∨ n = 3 ∨ n = 4 ∨ n = 5 ∨ n = 6 ∨ n = 7) with rfl | rfl | rfl | rfl | rfl | rfl | rfl
    · have b0 := lb_let_b (hl 0 (by omega))
      simp only [lb_pn] at a
      omega
    · have b0 := lb_let_b (hl 0 (by omega))
      have b1 := lb_let_b (hl 1 (by omega))
      simp only [lb_pn] at a
      omega
    · have b0 := lb_let_b (hl 0 (by omega))
      have b1 := lb_let_b (hl 1 (by omega))
      have b2 := lb_let_b (hl 2 (by omega))
      simp only [lb_pn] at a
      omega
    · have b0 := lb_let_b (hl 0 (by omega))
      have b1 := lb_let_b (hl 1 (by omega))
      have b2 := lb_let_b (hl 2 (by omega))
      have b3 := lb_let_b (hl 3 (by omega))
      simp only [lb_pn] at a
      omega
    · have b0 := lb_let_b (hl 0 (by omega))
      have b1 := lb_let_b (hl 1 (by omega))
      have b2 := lb_let_b (hl 2 (by omega))
      have b3 := lb_let_b (hl 3 (by omega))
      have b4 := lb_let_b (hl 4 (by omega))
      simp only [lb_pn] at a
      omega
    · have b0 := lb_let_b (hl 0 (by omega))
      have b1 := lb_let_b (hl 1 (by omega))
      have b2 := lb_let_b (hl 2 (by omega))
      have b3 := lb_let_b (hl 3 (by omega))
      have b4 := lb_let_b (hl 4 (by omega))
      have b5 := lb_let_b (hl 5 (by omega))
      simp only [lb_pn] at a
      have v0 : (f (p + 0)).toInt = 118 := by omega
      have v1 : (f (p + 1)).toInt = 111 := by omega
      have v2 : (f (p + 2)).toInt = 121 := by omega
      have v3 : (f (p + 3)).toInt = 97 := by omega
      have v4 : (f (p + 4)).toInt = 103 := by omega
      have v5 : (f (p + 5)).toInt = 101 := by omega
      have hq := (hl 5 (by omega)).1
      rw [hW]
      refine ⟨by show p + 6 ≤ t; omega, fun i hi => ?_, hn⟩
      have hi : i < 6 := hi
      rcases (by omega : i = 0 ∨ i = 1 ∨ i = 2 ∨ i = 3 ∨ i = 4 ∨ i = 5) with rfl | rfl | rfl | rfl | rfl | rfl
      · exact Int32.toInt_inj.mp v0
      · exact Int32.toInt_inj.mp v1
      · exact Int32.toInt_inj.mp v2
      · exact Int32.toInt_inj.mp v3
      · exact Int32.toInt_inj.mp v4
      · exact Int32.toInt_inj.mp v5
    · have b0 := lb_let_b (hl 0 (by omega))
      have b1 := lb_let_b (hl 1 (by omega))
      have b2 := lb_let_b (hl 2 (by omega))
      have b3 := lb_let_b (hl 3 (by omega))
      have b4 := lb_let_b (hl 4 (by omega))
      have b5 := lb_let_b (hl 5 (by omega))
      have b6 := lb_let_b (hl 6 (by omega))
      simp only [lb_pn] at a
      omega
  · intro h
    rw [hW] at h
    obtain ⟨h1, h2, h3⟩ := h
    have h1 : p + 6 ≤ t := h1
    have v0 : f (p + 0) = 118 := h2 0 (by decide)
    have v1 : f (p + 1) = 111 := h2 1 (by decide)
    have v2 : f (p + 2) = 121 := h2 2 (by decide)
    have v3 : f (p + 3) = 97 := h2 3 (by decide)
    have v4 : f (p + 4) = 103 := h2 4 (by decide)
    have v5 : f (p + 5) = 101 := h2 5 (by decide)
    have hl : ∀ i, i < 6 → lb_let f t (p + i) := by
      intro i hi
      refine ⟨by omega, ?_⟩
      rcases (by omega : i = 0 ∨ i = 1 ∨ i = 2 ∨ i = 3 ∨ i = 4 ∨ i = 5) with rfl | rfl | rfl | rfl | rfl | rfl
      · rw [v0]; decide
      · rw [v1]; decide
      · rw [v2]; decide
      · rw [v3]; decide
      · rw [v4]; decide
      · rw [v5]; decide
    have el := lb_l_eq (f := f) (t := t) 6 p hl h3
    unfold lb_iw
    rw [el]
    refine ⟨by decide, by decide, ?_⟩
    obtain ⟨a, _⟩ := lb_pkn 6 (by decide) hl
    have e : lb_pn f p 6 = 130221149874021 := by
      simp only [lb_pn, v0, v1, v2, v3, v4, v5]
      decide +kernel
    have e2 : lb_pk f p 6 = (130221149874021 : Int64) := by
      apply Int64.toBitVec_inj.mp
      apply BitVec.eq_of_toNat_eq
      rw [a, e, hV]
    rw [e2]
    exact lg_cmp1
theorem lb_w_hands {f : Nat → Int32} {t p : Nat} : lb_iw f t p (448311223411 : Int64) ↔ lb_at f t (lb_W (nt_sp + 1 + 4)) p := by
  have hW : lb_W (nt_sp + 1 + 4) = [104, 97, 110, 100, 115] := by decide +kernel
  have hV : (448311223411 : Int64).toBitVec.toNat = 448311223411 := by decide +kernel
  constructor
  · intro ⟨h0, h8, hc⟩
    obtain ⟨hl, hn⟩ := lb_l_let (f := f) (t := t) _ p rfl
    have e := lg_cmp0 hc
    obtain ⟨a, _⟩ := lb_pkn (lb_l f t p) (by omega) hl
    rw [e, hV] at a
    clear e hc
    generalize lb_l f t p = n at *
    rcases (by omega : n = 1 ∨ n = 2 ∨ n = 3 ∨ n = 4 ∨ n = 5 ∨ n = 6 ∨ n = 7) with rfl | rfl | rfl | rfl | rfl | rfl | rfl
    · have b0 := lb_let_b (hl 0 (by omega))
      simp only [lb_pn] at a
      omega
    · have b0 := lb_let_b (hl 0 (by omega))
      have b1 := lb_let_b (hl 1 (by omega))
      simp only [lb_pn] at a
      omega
    · have b0 := lb_let_b (hl 0 (by omega))
      have b1 := lb_let_b (hl 1 (by omega))
      have b2 := lb_let_b (hl 2 (by omega))
      simp only [lb_pn] at a
      omega
    · have b0 := lb_let_b (hl 0 (by omega))
      have b1 := lb_let_b (hl 1 (by omega))
      have b2 := lb_let_b (hl 2 (by omega))
      have b3 := lb_let_b (hl 3 (by omega))
      simp only [lb_pn] at a
      omega
    · have b0 := lb_let_b (hl 0 (by omega))
      have b1 := lb_let_b (hl 1 (by omega))
      have b2 := lb_let_b (hl 2 (by omega))
      have b3 := lb_let_b (hl 3 (by omega))
      have b4 := lb_let_b (hl 4 (by omega))
      simp only [lb_pn] at a
      have v0 : (f (p + 0)).toInt = 104 := by omega
      have v1 : (f (p + 1)).toInt = 97 := by omega
      have v2 : (f (p + 2)).toInt = 110 := by omega
      have v3 : (f (p + 3)).toInt = 100 := by omega
      have v4 : (f (p + 4)).toInt = 115 := by omega
      have hq := (hl 4 (by omega)).1
      rw [hW]
      refine ⟨by show p + 5 ≤ t; omega, fun i hi => ?_, hn⟩
      have hi : i < 5 := hi
      rcases (by omega : i = 0 ∨ i = 1 ∨ i = 2 ∨ i = 3 ∨ i = 4) with rfl | rfl | rfl | rfl | rfl
      · exact Int32.toInt_inj.mp v0
      · exact Int32.toInt_inj.mp v1
      · exact Int32.toInt_inj.mp v2
      · exact Int32.toInt_inj.mp v3
      · exact Int32.toInt_inj.mp v4
    · have b0 := lb_let_b (hl 0 (by omega))
      have b1 := lb_let_b (hl 1 (by omega))
      have b2 := lb_let_b (hl 2 (by omega))
      have b3 := lb_let_b (hl 3 (by omega))
      have b4 := lb_let_b (hl 4 (by omega))
      have b5 := lb_let_b (hl 5 (by omega))
      simp only [lb_pn] at a
      omega
    · have b0 := lb_let_b (hl 0 (by omega))
      have b1 := lb_let_b (hl 1 (by omega))
      have b2 := lb_let_b (hl 2 (by omega))
      have b3 := lb_let_b (hl 3 (by omega))
      have b4 := lb_let_b (hl 4 (by omega))
      have b5 := lb_let_b (hl 5 (by omega))
      have b6 := lb_let_b (hl 6 (by omega))
      simp only [lb_pn] at a
      omega
  · intro h
    rw [hW] at h
    obtain ⟨h1, h2, h3⟩ := h
    have h1 : p + 5 ≤ t := h1
    have v0 : f (p + 0) = 104 := h2 0 (by decide)
    have v1 : f (p + 1) = 97 := h2 1 (by decide)
    have v2 : f (p + 2) = 110 := h2 2 (by decide)
    have v3 : f (p + 3) = 100 := h2 3 (by decide)
    have v4 : f (p + 4) = 115 := h2 4 (by decide)
    have hl : ∀ i, i < 5 → lb_let f t (p + i) := by
      intro i hi
      refine ⟨by omega, ?_⟩
      rcases (by omega : i = 0 ∨ i = 1 ∨ i = 2 ∨ i = 3 ∨ i = 4) with rfl | rfl | rfl | rfl | rfl
      · rw [v0]; decide
      · rw [v1]; decide
      · rw [v2]; decide
      · rw [v3]; decide
      · rw [v4]; decide
    have el := lb_l_eq (f := f) (t := t) 5 p hl h3
    unfold lb_iw
    rw [el]
    refine ⟨by decide, by decide, ?_⟩
    obtain ⟨a, _⟩ := lb_pkn 5 (by decide) hl
    have e : lb_pn f p 5 = 448311223411 := by
      simp only [lb_pn, v0, v1, v2, v3, v4]
      decide +kernel
    have e2 : lb_pk f p 5 = (448311223411 : Int64) := by
      apply Int64.toBitVec_inj.mp
      apply BitVec.eq_of_toNat_eq
      rw [a, e, hV]
    rw [e2]
    exact lg_cmp1
theorem lb_w_take {f : Nat → Int32} {t p : Nat} : lb_iw f t p (1952541541 : Int64) ↔ lb_at f t (lb_W (nt_sp + 1 + 5)) p := by
  have hW : lb_W (nt_sp + 1 + 5) = [116, 97, 107, 101] := by decide +kernel
  have hV : (1952541541 : Int64).toBitVec.toNat = 1952541541 := by decide +kernel
  constructor
  · intro ⟨h0, h8, hc⟩
    obtain ⟨hl, hn⟩ := lb_l_let (f := f) (t := t) _ p rfl
    have e := lg_cmp0 hc
    obtain ⟨a, _⟩ := lb_pkn (lb_l f t p) (by omega) hl
    rw [e, hV] at a
    clear e hc
    generalize lb_l f t p = n at *
    rcases (by omega : n = 1 ∨ n = 2 ∨ n = 3 ∨ n = 4 ∨ n = 5 ∨ n = 6 ∨ n = 7) with rfl | rfl | rfl | rfl | rfl | rfl | rfl
    · have b0 := lb_let_b (hl 0 (by omega))
      simp only [lb_pn] at a
      omega
    · have b0 := lb_let_b (hl 0 (by omega))
      have b1 := lb_let_b (hl 1 (by omega))
      simp only [lb_pn] at a
      omega
    · have b0 := lb_let_b (hl 0 (by omega))
      have b1 := lb_let_b (hl 1 (by omega))
      have b2 := lb_let_b (hl 2 (by omega))
      simp only [lb_pn] at a
      omega
    · have b0 := lb_let_b (hl 0 (by omega))
      have b1 := lb_let_b (hl 1 (by omega))
      have b2 := lb_let_b (hl 2 (by omega))
      have b3 := lb_let_b (hl 3 (by omega))
      simp only [lb_pn] at a
      have v0 : (f (p + 0)).toInt = 116 := by omega
      have v1 : (f (p + 1)).toInt = 97 := by omega
      have v2 : (f (p + 2)).toInt = 107 := by omega
      have v3 : (f (p + 3)).toInt = 101 := by omega
      have hq := (hl 3 (by omega)).1
      rw [hW]
      refine ⟨by show p + 4 ≤ t; omega, fun i hi => ?_, hn⟩
      have hi : i < 4 := hi
      rcases (by omega : i = 0 ∨ i = 1 ∨ i = 2 ∨ i = 3) with rfl | rfl | rfl | rfl
      · exact Int32.toInt_inj.mp v0
      · exact Int32.toInt_inj.mp v1
      · exact Int32.toInt_inj.mp v2
      · exact Int32.toInt_inj.mp v3
    · have b0 := lb_let_b (hl 0 (by omega))
      have b1 := lb_let_b (hl 1 (by omega))
      have b2 := lb_let_b (hl 2 (by omega))
      have b3 := lb_let_b (hl 3 (by omega))
      have b4 := lb_let_b (hl 4 (by omega))
      simp only [lb_pn] at a
      omega
    · have b0 := lb_let_b (hl 0 (by omega))
      have b1 := lb_let_b (hl 1 (by omega))
      have b2 := lb_let_b (hl 2 (by omega))
      have b3 := lb_let_b (hl 3 (by omega))
      have b4 := lb_let_b (hl 4 (by omega))
      have b5 := lb_let_b (hl 5 (by omega))
      simp only [lb_pn] at a
      omega
    · have b0 := lb_let_b (hl 0 (by omega))
      have b1 := lb_let_b (hl 1 (by omega))
      have b2 := lb_let_b (hl 2 (by omega))
      have b3 := lb_let_b (hl 3 (by omega))
      have b4 := lb_let_b (hl 4 (by omega))
      have b5 := lb_let_b (hl 5 (by omega))
      have b6 := lb_let_b (hl 6 (by omega))
      simp only [lb_pn] at a
      omega
  · intro h
    rw [hW] at h
    obtain ⟨h1, h2, h3⟩ := h
    have h1 : p + 4 ≤ t := h1
    have v0 : f (p + 0) = 116 := h2 0 (by decide)
    have v1 : f (p + 1) = 97 := h2 1 (by decide)
    have v2 : f (p + 2) = 107 := h2 2 (by decide)
    have v3 : f (p + 3) = 101 := h2 3 (by decide)
    have hl : ∀ i, i < 4 → lb_let f t (p + i) := by
      intro i hi
      refine ⟨by omega, ?_⟩
      rcases (by omega : i = 0 ∨ i = 1 ∨ i = 2 ∨ i = 3) with rfl | rfl | rfl | rfl
      · rw [v0]; decide
      · rw [v1]; decide
      · rw [v2]; decide
      · rw [v3]; decide
    have el := lb_l_eq (f := f) (t := t) 4 p hl h3
    unfold lb_iw
    rw [el]
    refine ⟨by decide, by decide, ?_⟩
    obtain ⟨a, _⟩ := lb_pkn 4 (by decide) hl
    have e : lb_pn f p 4 = 1952541541 := by
      simp only [lb_pn, v0, v1, v2, v3]
      decide +kernel
    have e2 : lb_pk f p 4 = (1952541541 : Int64) := by
      apply Int64.toBitVec_inj.mp
      apply BitVec.eq_of_toNat_eq
      rw [a, e, hV]
    rw [e2]
    exact lg_cmp1
theorem lb_w_kind {f : Nat → Int32} {t p : Nat} : lb_iw f t p (1802071652 : Int64) ↔ lb_at f t (lb_W (nt_sp + 1 + 6)) p := by
  have hW : lb_W (nt_sp + 1 + 6) = [107, 105, 110, 100] := by decide +kernel
  have hV : (1802071652 : Int64).toBitVec.toNat = 1802071652 := by decide +kernel
  constructor
  · intro ⟨h0, h8, hc⟩
    obtain ⟨hl, hn⟩ := lb_l_let (f := f) (t := t) _ p rfl
    have e := lg_cmp0 hc
    obtain ⟨a, _⟩ := lb_pkn (lb_l f t p) (by omega) hl
    rw [e, hV] at a
    clear e hc
    generalize lb_l f t p = n at *
    rcases (by omega : n = 1 ∨ n = 2 ∨ n = 3 ∨ n = 4 ∨ n = 5 ∨ n = 6 ∨ n = 7) with rfl | rfl | rfl | rfl | rfl | rfl | rfl
    · have b0 := lb_let_b (hl 0 (by omega))
      simp only [lb_pn] at a
      omega
    · have b0 := lb_let_b (hl 0 (by omega))
      have b1 := lb_let_b (hl 1 (by omega))
      simp only [lb_pn] at a
      omega
    · have b0 := lb_let_b (hl 0 (by omega))
      have b1 := lb_let_b (hl 1 (by omega))
      have b2 := lb_let_b (hl 2 (by omega))
      simp only [lb_pn] at a
      omega
    · have b0 := lb_let_b (hl 0 (by omega))
      have b1 := lb_let_b (hl 1 (by omega))
      have b2 := lb_let_b (hl 2 (by omega))
      have b3 := lb_let_b (hl 3 (by omega))
      simp only [lb_pn] at a
      have v0 : (f (p + 0)).toInt = 107 := by omega
      have v1 : (f (p + 1)).toInt = 105 := by omega
      have v2 : (f (p + 2)).toInt = 110 := by omega
      have v3 : (f (p + 3)).toInt = 100 := by omega
      have hq := (hl 3 (by omega)).1
      rw [hW]
      refine ⟨by show p + 4 ≤ t; omega, fun i hi => ?_, hn⟩
      have hi : i < 4 := hi
      rcases (by omega : i = 0 ∨ i = 1 ∨ i = 2 ∨ i = 3) with rfl | rfl | rfl | rfl
      · exact Int32.toInt_inj.mp v0
      · exact Int32.toInt_inj.mp v1
      · exact Int32.toInt_inj.mp v2
      · exact Int32.toInt_inj.mp v3
    · have b0 := lb_let_b (hl 0 (by omega))
      have b1 := lb_let_b (hl 1 (by omega))
      have b2 := lb_let_b (hl 2 (by omega))
      have b3 := lb_let_b (hl 3 (by omega))
      have b4 := lb_let_b (hl 4 (by omega))
      simp only [lb_pn] at a
      omega
    · have b0 := lb_let_b (hl 0 (by omega))
      have b1 := lb_let_b (hl 1 (by omega))
      have b2 := lb_let_b (hl 2 (by omega))
      have b3 := lb_let_b (hl 3 (by omega))
      have b4 := lb_let_b (hl 4 (by omega))
      have b5 := lb_let_b (hl 5 (by omega))
      simp only [lb_pn] at a
      omega
    · have b0 := lb_let_b (hl 0 (by omega))
      have b1 := lb_let_b (hl 1 (by omega))
      have b2 := lb_let_b (hl 2 (by omega))
      have b3 := lb_let_b (hl 3 (by omega))
      have b4 := lb_let_b (hl 4 (by omega))
      have b5 := lb_let_b (hl 5 (by omega))
      have b6 := lb_let_b (hl 6 (by omega))
      simp only [lb_pn] at a
      omega
  · intro h
    rw [hW] at h
    obtain ⟨h1, h2, h3⟩ := h
    have h1 : p + 4 ≤ t := h1
    have v0 : f (p + 0) = 107 := h2 0 (by decide)
    have v1 : f (p + 1) = 105 := h2 1 (by decide)
    have v2 : f (p + 2) = 110 := h2 2 (by decide)
    have v3 : f (p + 3) = 100 := h2 3 (by decide)
    have hl : ∀ i, i < 4 → lb_let f t (p + i) := by
      intro i hi
      refine ⟨by omega, ?_⟩
      rcases (by omega : i = 0 ∨ i = 1 ∨ i = 2 ∨ i = 3) with rfl | rfl | rfl | rfl
      · rw [v0]; decide
      · rw [v1]; decide
      · rw [v2]; decide
      · rw [v3]; decide
    have el := lb_l_eq (f := f) (t := t) 4 p hl h3
    unfold lb_iw
    rw [el]
    refine ⟨by decide, by decide, ?_⟩
    obtain ⟨a, _⟩ := lb_pkn 4 (by decide) hl
    have e : lb_pn f p 4 = 1802071652 := by
      simp only [lb_pn, v0, v1, v2, v3]
      decide +kernel
    have e2 : lb_pk f p 4 = (1802071652 : Int64) := by
      apply Int64.toBitVec_inj.mp
      apply BitVec.eq_of_toNat_eq
      rw [a, e, hV]
    rw [e2]
    exact lg_cmp1
theorem lb_w_rot {f : Nat → Int32} {t p : Nat} : lb_iw f t p (7499636 : Int64) ↔ lb_at f t (lb_W (nt_sp + 1 + 7)) p := by
  have hW : lb_W (nt_sp + 1 + 7) = [114, 111, 116] := by decide +kernel
  have hV : (7499636 : Int64).toBitVec.toNat = 7499636 := by decide +kernel
  constructor
  · intro ⟨h0, h8, hc⟩
    obtain ⟨hl, hn⟩ := lb_l_let (f := f) (t := t) _ p rfl
    have e := lg_cmp0 hc
    obtain ⟨a, _⟩ := lb_pkn (lb_l f t p) (by omega) hl
    rw [e, hV] at a
    clear e hc
    generalize lb_l f t p = n at *
    rcases (by omega : n = 1 ∨ n = 2 ∨ n = 3 ∨ n = 4 ∨ n = 5 ∨ n = 6 ∨ n = 7) with rfl | rfl | rfl | rfl | rfl | rfl | rfl
    · have b0 := lb_let_b (hl 0 (by omega))
      simp only [lb_pn] at a
      omega
    · have b0 := lb_let_b (hl 0 (by omega))
      have b1 := lb_let_b (hl 1 (by omega))
      simp only [lb_pn] at a
      omega
    · have b0 := lb_let_b (hl 0 (by omega))
      have b1 := lb_let_b (hl 1 (by omega))
      have b2 := lb_let_b (hl 2 (by omega))
      simp only [lb_pn] at a
      have v0 : (f (p + 0)).toInt = 114 := by omega
      have v1 : (f (p + 1)).toInt = 111 := by omega
      have v2 : (f (p + 2)).toInt = 116 := by omega
      have hq := (hl 2 (by omega)).1
      rw [hW]
      refine ⟨by show p + 3 ≤ t; omega, fun i hi => ?_, hn⟩
      have hi : i < 3 := hi
      rcases (by omega : i = 0 ∨ i = 1 ∨ i = 2) with rfl | rfl | rfl
      · exact Int32.toInt_inj.mp v0
      · exact Int32.toInt_inj.mp v1
      · exact Int32.toInt_inj.mp v2
    · have b0 := lb_let_b (hl 0 (by omega))
      have b1 := lb_let_b (hl 1 (by omega))
      have b2 := lb_let_b (hl 2 (by omega))
      have b3 := lb_let_b (hl 3 (by omega))
      simp only [lb_pn] at a
      omega
    · have b0 := lb_let_b (hl 0 (by omega))
      have b1 := lb_let_b (hl 1 (by omega))
      have b2 := lb_let_b (hl 2 (by omega))
      have b3 := lb_let_b (hl 3 (by omega))
      have b4 := lb_let_b (hl 4 (by omega))
      simp only [lb_pn] at a
      omega
    · have b0 := lb_let_b (hl 0 (by omega))
      have b1 := lb_let_b (hl 1 (by omega))
      have b2 := lb_let_b (hl 2 (by omega))
      have b3 := lb_let_b (hl 3 (by omega))
      have b4 := lb_let_b (hl 4 (by omega))
      have b5 := lb_let_b (hl 5 (by omega))
      simp only [lb_pn] at a
      omega
    · have b0 := lb_let_b (hl 0 (by omega))
      have b1 := lb_let_b (hl 1 (by omega))
      have b2 := lb_let_b (hl 2 (by omega))
      have b3 := lb_let_b (hl 3 (by omega))
      have b4 := lb_let_b (hl 4 (by omega))
      have b5 := lb_let_b (hl 5 (by omega))
      have b6 := lb_let_b (hl 6 (by omega))
      simp only [lb_pn] at a
      omega
  · intro h
    rw [hW] at h
    obtain ⟨h1, h2, h3⟩ := h
    have h1 : p + 3 ≤ t := h1
    have v0 : f (p + 0) = 114 := h2 0 (by decide)
    have v1 : f (p + 1) = 111 := h2 1 (by decide)
    have v2 : f (p + 2) = 116 := h2 2 (by decide)
    have hl : ∀ i, i < 3 → lb_let f t (p + i) := by
      intro i hi
      refine ⟨by omega, ?_⟩
      rcases (by omega : i = 0 ∨ i = 1 ∨ i = 2) with rfl | rfl | rfl
      · rw [v0]; decide
      · rw [v1]; decide
      · rw [v2]; decide
    have el := lb_l_eq (f := f) (t := t) 3 p hl h3
    unfold lb_iw
    rw [el]
    refine ⟨by decide, by decide, ?_⟩
    obtain ⟨a, _⟩ := lb_pkn 3 (by decide) hl
    have e : lb_pn f p 3 = 7499636 := by
      simp only [lb_pn, v0, v1, v2]
      decide +kernel
    have e2 : lb_pk f p 3 = (7499636 : Int64) := by
      apply Int64.toBitVec_inj.mp
      apply BitVec.eq_of_toNat_eq
      rw [a, e, hV]
    rw [e2]
    exact lg_cmp1
theorem lb_w_owner {f : Nat → Int32} {t p : Nat} : lb_iw f t p (478745093490 : Int64) ↔ lb_at f t (lb_W (nt_sp + 1 + 8)) p := by
  have hW : lb_W (nt_sp + 1 + 8) = [111, 119, 110, 101, 114] := by decide +kernel
  have hV : (478745093490 : Int64).toBitVec.toNat = 478745093490 := by decide +kernel
  constructor
  · intro ⟨h0, h8, hc⟩
    obtain ⟨hl, hn⟩ := lb_l_let (f := f) (t := t) _ p rfl
    have e := lg_cmp0 hc
    obtain ⟨a, _⟩ := lb_pkn (lb_l f t p) (by omega) hl
    rw [e, hV] at a
    clear e hc
    generalize lb_l f t p = n at *
    rcases (by omega : n = 1 ∨ n = 2 ∨ n = 3 ∨ n = 4 ∨ n = 5 ∨ n = 6 ∨ n = 7) with rfl | rfl | rfl | rfl | rfl | rfl | rfl
    · have b0 := lb_let_b (hl 0 (by omega))
      simp only [lb_pn] at a
      omega
    · have b0 := lb_let_b (hl 0 (by omega))
      have b1 := lb_let_b (hl 1 (by omega))
      simp only [lb_pn] at a
      omega
    · have b0 := lb_let_b (hl 0 (by omega))
      have b1 := lb_let_b (hl 1 (by omega))
      have b2 := lb_let_b (hl 2 (by omega))
      simp only [lb_pn] at a
      omega
    · have b0 := lb_let_b (hl 0 (by omega))
      have b1 := lb_let_b (hl 1 (by omega))
      have b2 := lb_let_b (hl 2 (by omega))
      have b3 := lb_let_b (hl 3 (by omega))
      simp only [lb_pn] at a
      omega
    · have b0 := lb_let_b (hl 0 (by omega))
      have b1 := lb_let_b (hl 1 (by omega))
      have b2 := lb_let_b (hl 2 (by omega))
      have b3 := lb_let_b (hl 3 (by omega))
      have b4 := lb_let_b (hl 4 (by omega))
      simp only [lb_pn] at a
      have v0 : (f (p + 0)).toInt = 111 := by omega
      have v1 : (f (p + 1)).toInt = 119 := by omega
      have v2 : (f (p + 2)).toInt = 110 := by omega
      have v3 : (f (p + 3)).toInt = 101 := by omega
      have v4 : (f (p + 4)).toInt = 114 := by omega
      have hq := (hl 4 (by omega)).1
      rw [hW]
      refine ⟨by show p + 5 ≤ t; omega, fun i hi => ?_, hn⟩
      have hi : i < 5 := hi
      rcases (by omega : i = 0 ∨ i = 1 ∨ i = 2 ∨ i = 3 ∨ i = 4) with rfl | rfl | rfl | rfl | rfl
      · exact Int32.toInt_inj.mp v0
      · exact Int32.toInt_inj.mp v1
      · exact Int32.toInt_inj.mp v2
      · exact Int32.toInt_inj.mp v3
      · exact Int32.toInt_inj.mp v4
    · have b0 := lb_let_b (hl 0 (by omega))
      have b1 := lb_let_b (hl 1 (by omega))
      have b2 := lb_let_b (hl 2 (by omega))
      have b3 := lb_let_b (hl 3 (by omega))
      have b4 := lb_let_b (hl 4 (by omega))
      have b5 := lb_let_b (hl 5 (by omega))
      simp only [lb_pn] at a
      omega
    · have b0 := lb_let_b (hl 0 (by omega))
      have b1 := lb_let_b (hl 1 (by omega))
      have b2 := lb_let_b (hl 2 (by omega))
      have b3 := lb_let_b (hl 3 (by omega))
      have b4 := lb_let_b (hl 4 (by omega))
      have b5 := lb_let_b (hl 5 (by omega))
      have b6 := lb_let_b (hl 6 (by omega))
      simp only [lb_pn] at a
      omega
  · intro h
    rw [hW] at h
    obtain ⟨h1, h2, h3⟩ := h
    have h1 : p + 5 ≤ t := h1
    have v0 : f (p + 0) = 111 := h2 0 (by decide)
    have v1 : f (p + 1) = 119 := h2 1 (by decide)
    have v2 : f (p + 2) = 110 := h2 2 (by decide)
    have v3 : f (p + 3) = 101 := h2 3 (by decide)
    have v4 : f (p + 4) = 114 := h2 4 (by decide)
    have hl : ∀ i, i < 5 → lb_let f t (p + i) := by
      intro i hi
      refine ⟨by omega, ?_⟩
      rcases (by omega : i = 0 ∨ i = 1 ∨ i = 2 ∨ i = 3 ∨ i = 4) with rfl | rfl | rfl | rfl | rfl
      · rw [v0]; decide
      · rw [v1]; decide
      · rw [v2]; decide
      · rw [v3]; decide
      · rw [v4]; decide
    have el := lb_l_eq (f := f) (t := t) 5 p hl h3
    unfold lb_iw
    rw [el]
    refine ⟨by decide, by decide, ?_⟩
    obtain ⟨a, _⟩ := lb_pkn 5 (by decide) hl
    have e : lb_pn f p 5 = 478745093490 := by
      simp only [lb_pn, v0, v1, v2, v3, v4]
      decide +kernel
    have e2 : lb_pk f p 5 = (478745093490 : Int64) := by
      apply Int64.toBitVec_inj.mp
      apply BitVec.eq_of_toNat_eq
      rw [a, e, hV]
    rw [e2]
    exact lg_cmp1
theorem lb_w_from {f : Nat → Int32} {t p : Nat} : lb_iw f t p (1718775661 : Int64) ↔ lb_at f t (lb_W (nt_sp + 1 + 9)) p := by
  have hW : lb_W (nt_sp + 1 + 9) = [102, 114, 111, 109] := by decide +kernel
  have hV : (1718775661 : Int64).toBitVec.toNat = 1718775661 := by decide +kernel
  constructor
  · intro ⟨h0, h8, hc⟩
    obtain ⟨hl, hn⟩ := lb_l_let (f := f) (t := t) _ p rfl
    have e := lg_cmp0 hc
    obtain ⟨a, _⟩ := lb_pkn (lb_l f t p) (by omega) hl
    rw [e, hV] at a
    clear e hc
    generalize lb_l f t p = n at *
    rcases (by omega : n = 1 ∨ n = 2 ∨ n = 3 ∨ n = 4 ∨ n = 5 ∨ n = 6 ∨ n = 7) with rfl | rfl | rfl | rfl | rfl | rfl | rfl
    · have b0 := lb_let_b (hl 0 (by omega))
      simp only [lb_pn] at a
      omega
    · have b0 := lb_let_b (hl 0 (by omega))
      have b1 := lb_let_b (hl 1 (by omega))
      simp only [lb_pn] at a
      omega
    · have b0 := lb_let_b (hl 0 (by omega))
      have b1 := lb_let_b (hl 1 (by omega))
      have b2 := lb_let_b (hl 2 (by omega))
      simp only [lb_pn] at a
      omega
    · have b0 := lb_let_b (hl 0 (by omega))
      have b1 := lb_let_b (hl 1 (by omega))
      have b2 := lb_let_b (hl 2 (by omega))
      have b3 := lb_let_b (hl 3 (by omega))
      simp only [lb_pn] at a
      have v0 : (f (p + 0)).toInt = 102 := by omega
      have v1 : (f (p + 1)).toInt = 114 := by omega
      have v2 : (f (p + 2)).toInt = 111 := by omega
      have v3 : (f (p + 3)).toInt = 109 := by omega
      have hq := (hl 3 (by omega)).1
      rw [hW]
      refine ⟨by show p + 4 ≤ t; omega, fun i hi => ?_, hn⟩
      have hi : i < 4 := hi
      rcases (by omega : i = 0 ∨ i = 1 ∨ i = 2 ∨ i = 3) with rfl | rfl | rfl | rfl
      · exact Int32.toInt_inj.mp v0
      · exact Int32.toInt_inj.mp v1
      · exact Int32.toInt_inj.mp v2
      · exact Int32.toInt_inj.mp v3
    · have b0 := lb_let_b (hl 0 (by omega))
      have b1 := lb_let_b (hl 1 (by omega))
      have b2 := lb_let_b (hl 2 (by omega))
      have b3 := lb_let_b (hl 3 (by omega))
      have b4 := lb_let_b (hl 4 (by omega))
      simp only [lb_pn] at a
      omega
    · have b0 := lb_let_b (hl 0 (by omega))
      have b1 := lb_let_b (hl 1 (by omega))
      have b2 := lb_let_b (hl 2 (by omega))
      have b3 := lb_let_b (hl 3 (by omega))
      have b4 := lb_let_b (hl 4 (by omega))
      have b5 := lb_let_b (hl 5 (by omega))
      simp only [lb_pn] at a
      omega
    · have b0 := lb_let_b (hl 0 (by omega))
      have b1 := lb_let_b (hl 1 (by omega))
      have b2 := lb_let_b (hl 2 (by omega))
      have b3 := lb_let_b (hl 3 (by omega))
      have b4 := lb_let_b (hl 4 (by omega))
      have b5 := lb_let_b (hl 5 (by omega))
      have b6 := lb_let_b (hl 6 (by omega))
      simp only [lb_pn] at a
      omega
  · intro h
    rw [hW] at h
    obtain ⟨h1, h2, h3⟩ := h
    have h1 : p + 4 ≤ t := h1
    have v0 : f (p + 0) = 102 := h2 0 (by decide)
    have v1 : f (p + 1) = 114 := h2 1 (by decide)
    have v2 : f (p + 2) = 111 := h2 2 (by decide)
    have v3 : f (p + 3) = 109 := h2 3 (by decide)
    have hl : ∀ i, i < 4 → lb_let f t (p + i) := by
      intro i hi
      refine ⟨by omega, ?_⟩
      rcases (by omega : i = 0 ∨ i = 1 ∨ i = 2 ∨ i = 3) with rfl | rfl | rfl | rfl
      · rw [v0]; decide
      · rw [v1]; decide
      · rw [v2]; decide
      · rw [v3]; decide
    have el := lb_l_eq (f := f) (t := t) 4 p hl h3
    unfold lb_iw
    rw [el]
    refine ⟨by decide, by decide, ?_⟩
    obtain ⟨a, _⟩ := lb_pkn 4 (by decide) hl
    have e : lb_pn f p 4 = 1718775661 := by
      simp only [lb_pn, v0, v1, v2, v3]
      decide +kernel
    have e2 : lb_pk f p 4 = (1718775661 : Int64) := by
      apply Int64.toBitVec_inj.mp
      apply BitVec.eq_of_toNat_eq
      rw [a, e, hV]
    rw [e2]
    exact lg_cmp1
theorem lb_w_own {f : Nat → Int32} {t p : Nat} : lb_iw f t p (7305070 : Int64) ↔ lb_at f t (lb_W (nt_sp + 1 + 10)) p := by
  have hW : lb_W (nt_sp + 1 + 10) = [111, 119, 110] := by decide +kernel
  have hV : (7305070 : Int64).toBitVec.toNat = 7305070 := by decide +kernel
  constructor
  · intro ⟨h0, h8, hc⟩
    obtain ⟨hl, hn⟩ := lb_l_let (f := f) (t := t) _ p rfl
    have e := lg_cmp0 hc
    obtain ⟨a, _⟩ := lb_pkn (lb_l f t p) (by omega) hl
    rw [e, hV] at a
    clear e hc
    generalize lb_l f t p = n at *
    rcases (by omega : n = 1 ∨ n = 2 ∨ n = 3 ∨ n = 4 ∨ n = 5 ∨ n = 6 ∨ n = 7) with rfl | rfl | rfl | rfl | rfl | rfl | rfl
    · have b0 := lb_let_b (hl 0 (by omega))
      simp only [lb_pn] at a
      omega
    · have b0 := lb_let_b (hl 0 (by omega))
      have b1 := lb_let_b (hl 1 (by omega))
      simp only [lb_pn] at a
      omega
    · have b0 := lb_let_b (hl 0 (by omega))
      have b1 := lb_let_b (hl 1 (by omega))
      have b2 := lb_let_b (hl 2 (by omega))
      simp only [lb_pn] at a
      have v0 : (f (p + 0)).toInt = 111 := by omega
      have v1 : (f (p + 1)).toInt = 119 := by omega
      have v2 : (f (p + 2)).toInt = 110 := by omega
      have hq := (hl 2 (by omega)).1
      rw [hW]
      refine ⟨by show p + 3 ≤ t; omega, fun i hi => ?_, hn⟩
      have hi : i < 3 := hi
      rcases (by omega : i = 0 ∨ i = 1 ∨ i = 2) with rfl | rfl | rfl
      · exact Int32.toInt_inj.mp v0
      · exact Int32.toInt_inj.mp v1
      · exact Int32.toInt_inj.mp v2
    · have b0 := lb_let_b (hl 0 (by omega))
      have b1 := lb_let_b (hl 1 (by omega))
      have b2 := lb_let_b (hl 2 (by omega))
      have b3 := lb_let_b (hl 3 (by omega))
      simp only [lb_pn] at a
      omega
    · have b0 := lb_let_b (hl 0 (by omega))
      have b1 := lb_let_b (hl 1 (by omega))
      have b2 := lb_let_b (hl 2 (by omega))
      have b3 := lb_let_b (hl 3 (by omega))
      have b4 := lb_let_b (hl 4 (by omega))
      simp only [lb_pn] at a
      omega
    · have b0 := lb_let_b (hl 0 (by omega))
      have b1 := lb_let_b (hl 1 (by omega))
      have b2 := lb_let_b (hl 2 (by omega))
      have b3 := lb_let_b (hl 3 (by omega))
      have b4 := lb_let_b (hl 4 (by omega))
      have b5 := lb_let_b (hl 5 (by omega))
      simp only [lb_pn] at a
      omega
    · have b0 := lb_let_b (hl 0 (by omega))
      have b1 := lb_let_b (hl 1 (by omega))
      have b2 := lb_let_b (hl 2 (by omega))
      have b3 := lb_let_b (hl 3 (by omega))
      have b4 := lb_let_b (hl 4 (by omega))
      have b5 := lb_let_b (hl 5 (by omega))
      have b6 := lb_let_b (hl 6 (by omega))
      simp only [lb_pn] at a
      omega
  · intro h
    rw [hW] at h
    obtain ⟨h1, h2, h3⟩ := h
    have h1 : p + 3 ≤ t := h1
    have v0 : f (p + 0) = 111 := h2 0 (by decide)
    have v1 : f (p + 1) = 119 := h2 1 (by decide)
    have v2 : f (p + 2) = 110 := h2 2 (by decide)
    have hl : ∀ i, i < 3 → lb_let f t (p + i) := by
      intro i hi
      refine ⟨by omega, ?_⟩
      rcases (by omega : i = 0 ∨ i = 1 ∨ i = 2) with rfl | rfl | rfl
      · rw [v0]; decide
      · rw [v1]; decide
      · rw [v2]; decide
    have el := lb_l_eq (f := f) (t := t) 3 p hl h3
    unfold lb_iw
    rw [el]
    refine ⟨by decide, by decide, ?_⟩
    obtain ⟨a, _⟩ := lb_pkn 3 (by decide) hl
    have e : lb_pn f p 3 = 7305070 := by
      simp only [lb_pn, v0, v1, v2]
      decide +kernel
    have e2 : lb_pk f p 3 = (7305070 : Int64) := by
      apply Int64.toBitVec_inj.mp
      apply BitVec.eq_of_toNat_eq
      rw [a, e, hV]
    rw [e2]
    exact lg_cmp1
theorem lb_w_day {f : Nat → Int32} {t p : Nat} : lb_iw f t p (6578553 : Int64) ↔ lb_at f t (lb_W (nt_sp + 1 + 11)) p := by
  have hW : lb_W (nt_sp + 1 + 11) = [100, 97, 121] := by decide +kernel
  have hV : (6578553 : Int64).toBitVec.toNat = 6578553 := by decide +kernel
  constructor
  · intro ⟨h0, h8, hc⟩
    obtain ⟨hl, hn⟩ := lb_l_let (f := f) (t := t) _ p rfl
    have e := lg_cmp0 hc
    obtain ⟨a, _⟩ := lb_pkn (lb_l f t p) (by omega) hl
    rw [e, hV] at a
    clear e hc
    generalize lb_l f t p = n at *
    rcases (by omega : n = 1 ∨ n = 2 ∨ n = 3 ∨ n = 4 ∨ n = 5 ∨ n = 6 ∨ n = 7) with rfl | rfl | rfl | rfl | rfl | rfl | rfl
    · have b0 := lb_let_b (hl 0 (by omega))
      simp only [lb_pn] at a
      omega
    · have b0 := lb_let_b (hl 0 (by omega))
      have b1 := lb_let_b (hl 1 (by omega))
      simp only [lb_pn] at a
      omega
    · have b0 := lb_let_b (hl 0 (by omega))
      have b1 := lb_let_b (hl 1 (by omega))
      have b2 := lb_let_b (hl 2 (by omega))
      simp only [lb_pn] at a
      have v0 : (f (p + 0)).toInt = 100 := by omega
      have v1 : (f (p + 1)).toInt = 97 := by omega
      have v2 : (f (p + 2)).toInt = 121 := by omega
      have hq := (hl 2 (by omega)).1
      rw [hW]
      refine ⟨by show p + 3 ≤ t; omega, fun i hi => ?_, hn⟩
      have hi : i < 3 := hi
      rcases (by omega : i = 0 ∨ i = 1 ∨ i = 2) with rfl | rfl | rfl
      · exact Int32.toInt_inj.mp v0
      · exact Int32.toInt_inj.mp v1
      · exact Int32.toInt_inj.mp v2
    · have b0 := lb_let_b (hl 0 (by omega))
      have b1 := lb_let_b (hl 1 (by omega))
      have b2 := lb_let_b (hl 2 (by omega))
      have b3 := lb_let_b (hl 3 (by omega))
      simp only [lb_pn] at a
      omega
    · have b0 := lb_let_b (hl 0 (by omega))
      have b1 := lb_let_b (hl 1 (by omega))
      have b2 := lb_let_b (hl 2 (by omega))
      have b3 := lb_let_b (hl 3 (by omega))
      have b4 := lb_let_b (hl 4 (by omega))
      simp only [lb_pn] at a
      omega
    · have b0 := lb_let_b (hl 0 (by omega))
      have b1 := lb_let_b (hl 1 (by omega))
      have b2 := lb_let_b (hl 2 (by omega))
      have b3 := lb_let_b (hl 3 (by omega))
      have b4 := lb_let_b (hl 4 (by omega))
      have b5 := lb_let_b (hl 5 (by omega))
      simp only [lb_pn] at a
      omega
    · have b0 := lb_let_b (hl 0 (by omega))
      have b1 := lb_let_b (hl 1 (by omega))
      have b2 := lb_let_b (hl 2 (by omega))
      have b3 := lb_let_b (hl 3 (by omega))
      have b4 := lb_let_b (hl 4 (by omega))
      have b5 := lb_let_b (hl 5 (by omega))
      have b6 := lb_let_b (hl 6 (by omega))
      simp only [lb_pn] at a
      omega
  · intro h
    rw [hW] at h
    obtain ⟨h1, h2, h3⟩ := h
    have h1 : p + 3 ≤ t := h1
    have v0 : f (p + 0) = 100 := h2 0 (by decide)
    have v1 : f (p + 1) = 97 := h2 1 (by decide)
    have v2 : f (p + 2) = 121 := h2 2 (by decide)
    have hl : ∀ i, i < 3 → lb_let f t (p + i) := by
      intro i hi
      refine ⟨by omega, ?_⟩
      rcases (by omega : i = 0 ∨ i = 1 ∨ i = 2) with rfl | rfl | rfl
      · rw [v0]; decide
      · rw [v1]; decide
      · rw [v2]; decide
    have el := lb_l_eq (f := f) (t := t) 3 p hl h3
    unfold lb_iw
    rw [el]
    refine ⟨by decide, by decide, ?_⟩
    obtain ⟨a, _⟩ := lb_pkn 3 (by decide) hl
    have e : lb_pn f p 3 = 6578553 := by
      simp only [lb_pn, v0, v1, v2]
      decide +kernel
    have e2 : lb_pk f p 3 = (6578553 : Int64) := by
      apply Int64.toBitVec_inj.mp
      apply BitVec.eq_of_toNat_eq
      rw [a, e, hV]
    rw [e2]
    exact lg_cmp1
theorem lb_w_moves {f : Nat → Int32} {t p : Nat} : lb_iw f t p (470021465459 : Int64) ↔ lb_at f t (lb_W (nt_sp + 1 + 12)) p := by
  have hW : lb_W (nt_sp + 1 + 12) = [109, 111, 118, 101, 115] := by decide +kernel
  have hV : (470021465459 : Int64).toBitVec.toNat = 470021465459 := by decide +kernel
  constructor
  · intro ⟨h0, h8, hc⟩
    obtain ⟨hl, hn⟩ := lb_l_let (f := f) (t := t) _ p rfl
    have e := lg_cmp0 hc
    obtain ⟨a, _⟩ := lb_pkn (lb_l f t p) (by omega) hl
    rw [e, hV] at a
    clear e hc
    generalize lb_l f t p = n at *
    rcases (by omega : n = 1 ∨ n = 2 ∨ n = 3 ∨ n = 4 ∨ n = 5 ∨ n = 6 ∨ n = 7) with rfl | rfl | rfl | rfl | rfl | rfl | rfl
    · have b0 := lb_let_b (hl 0 (by omega))
      simp only [lb_pn] at a
      omega
    · have b0 := lb_let_b (hl 0 (by omega))
      have b1 := lb_let_b (hl 1 (by omega))
      simp only [lb_pn] at a
      omega
    · have b0 := lb_let_b (hl 0 (by omega))
      have b1 := lb_let_b (hl 1 (by omega))
      have b2 := lb_let_b (hl 2 (by omega))
      simp only [lb_pn] at a
      omega
    · have b0 := lb_let_b (hl 0 (by omega))
      have b1 := lb_let_b (hl 1 (by omega))
      have b2 := lb_let_b (hl 2 (by omega))
      have b3 := lb_let_b (hl 3 (by omega))
      simp only [lb_pn] at a
      omega
    · have b0 := lb_let_b (hl 0 (by omega))
      have b1 := lb_let_b (hl 1 (by omega))
      have b2 := lb_let_b (hl 2 (by omega))
      have b3 := lb_let_b (hl 3 (by omega))
      have b4 := lb_let_b (hl 4 (by omega))
      simp only [lb_pn] at a
      have v0 : (f (p + 0)).toInt = 109 := by omega
      have v1 : (f (p + 1)).toInt = 111 := by omega
      have v2 : (f (p + 2)).toInt = 118 := by omega
      have v3 : (f (p + 3)).toInt = 101 := by omega
      have v4 : (f (p + 4)).toInt = 115 := by omega
      have hq := (hl 4 (by omega)).1
      rw [hW]
      refine ⟨by show p + 5 ≤ t; omega, fun i hi => ?_, hn⟩
      have hi : i < 5 := hi
      rcases (by omega : i = 0 ∨ i = 1 ∨ i = 2 ∨ i = 3 ∨ i = 4) with rfl | rfl | rfl | rfl | rfl
      · exact Int32.toInt_inj.mp v0
      · exact Int32.toInt_inj.mp v1
      · exact Int32.toInt_inj.mp v2
      · exact Int32.toInt_inj.mp v3
      · exact Int32.toInt_inj.mp v4
    · have b0 := lb_let_b (hl 0 (by omega))
      have b1 := lb_let_b (hl 1 (by omega))
      have b2 := lb_let_b (hl 2 (by omega))
      have b3 := lb_let_b (hl 3 (by omega))
      have b4 := lb_let_b (hl 4 (by omega))
      have b5 := lb_let_b (hl 5 (by omega))
      simp only [lb_pn] at a
      omega
    · have b0 := lb_let_b (hl 0 (by omega))
      have b1 := lb_let_b (hl 1 (by omega))
      have b2 := lb_let_b (hl 2 (by omega))
      have b3 := lb_let_b (hl 3 (by omega))
      have b4 := lb_let_b (hl 4 (by omega))
      have b5 := lb_let_b (hl 5 (by omega))
      have b6 := lb_let_b (hl 6 (by omega))
      simp only [lb_pn] at a
      omega
  · intro h
    rw [hW] at h
    obtain ⟨h1, h2, h3⟩ := h
    have h1 : p + 5 ≤ t := h1
    have v0 : f (p + 0) = 109 := h2 0 (by decide)
    have v1 : f (p + 1) = 111 := h2 1 (by decide)
    have v2 : f (p + 2) = 118 := h2 2 (by decide)
    have v3 : f (p + 3) = 101 := h2 3 (by decide)
    have v4 : f (p + 4) = 115 := h2 4 (by decide)
    have hl : ∀ i, i < 5 → lb_let f t (p + i) := by
      intro i hi
      refine ⟨by omega, ?_⟩
      rcases (by omega : i = 0 ∨ i = 1 ∨ i = 2 ∨ i = 3 ∨ i = 4) with rfl | rfl | rfl | rfl | rfl
      · rw [v0]; decide
      · rw [v1]; decide
      · rw [v2]; decide
      · rw [v3]; decide
      · rw [v4]; decide
    have el := lb_l_eq (f := f) (t := t) 5 p hl h3
    unfold lb_iw
    rw [el]
    refine ⟨by decide, by decide, ?_⟩
    obtain ⟨a, _⟩ := lb_pkn 5 (by decide) hl
    have e : lb_pn f p 5 = 470021465459 := by
      simp only [lb_pn, v0, v1, v2, v3, v4]
      decide +kernel
    have e2 : lb_pk f p 5 = (470021465459 : Int64) := by
      apply Int64.toBitVec_inj.mp
      apply BitVec.eq_of_toNat_eq
      rw [a, e, hV]
    rw [e2]
    exact lg_cmp1
theorem lb_w_length {f : Nat → Int32} {t p : Nat} : lb_iw f t p (119182899770472 : Int64) ↔ lb_at f t (lb_W (nt_sp + 1 + 13)) p := by
  have hW : lb_W (nt_sp + 1 + 13) = [108, 101, 110, 103, 116, 104] := by decide +kernel
  have hV : (119182899770472 : Int64).toBitVec.toNat = 119182899770472 := by decide +kernel
  constructor
  · intro ⟨h0, h8, hc⟩
    obtain ⟨hl, hn⟩ := lb_l_let (f := f) (t := t) _ p rfl
    have e := lg_cmp0 hc
    obtain ⟨a, _⟩ := lb_pkn (lb_l f t p) (by omega) hl
    rw [e, hV] at a
    clear e hc
    generalize lb_l f t p = n at *
    rcases (by omega : n = 1 ∨ n = 2 ∨ n = 3 ∨ n = 4 ∨ n = 5 ∨ n = 6 ∨ n = 7) with rfl | rfl | rfl | rfl | rfl | rfl | rfl
    · have b0 := lb_let_b (hl 0 (by omega))
      simp only [lb_pn] at a
      omega
    · have b0 := lb_let_b (hl 0 (by omega))
      have b1 := lb_let_b (hl 1 (by omega))
      simp only [lb_pn] at a
      omega
    · have b0 := lb_let_b (hl 0 (by omega))
      have b1 := lb_let_b (hl 1 (by omega))
      have b2 := lb_let_b (hl 2 (by omega))
      simp only [lb_pn] at a
      omega
    · have b0 := lb_let_b (hl 0 (by omega))
      have b1 := lb_let_b (hl 1 (by omega))
      have b2 := lb_let_b (hl 2 (by omega))
      have b3 := lb_let_b (hl 3 (by omega))
      simp only [lb_pn] at a
      omega
    · have b0 := lb_let_b (hl 0 (by omega))
      have b1 := lb_let_b (hl 1 (by omega))
      have b2 := lb_let_b (hl 2 (by omega))
      have b3 := lb_let_b (hl 3 (by omega))
      have b4 := lb_let_b (hl 4 (by omega))
      simp only [lb_pn] at a
      omega
    · have b0 := lb_let_b (hl 0 (by omega))
      have b1 := lb_let_b (hl 1 (by omega))
      have b2 := lb_let_b (hl 2 (by omega))
      have b3 := lb_let_b (hl 3 (by omega))
      have b4 := lb_let_b (hl 4 (by omega))
      have b5 := lb_let_b (hl 5 (by omega))
      simp only [lb_pn] at a
      have v0 : (f (p + 0)).toInt = 108 := by omega
      have v1 : (f (p + 1)).toInt = 101 := by omega
      have v2 : (f (p + 2)).toInt = 110 := by omega
      have v3 : (f (p + 3)).toInt = 103 := by omega
      have v4 : (f (p + 4)).toInt = 116 := by omega
      have v5 : (f (p + 5)).toInt = 104 := by omega
      have hq := (hl 5 (by omega)).1
      rw [hW]
      refine ⟨by show p + 6 ≤ t; omega, fun i hi => ?_, hn⟩
      have hi : i < 6 := hi
      rcases (by omega : i = 0 ∨ i = 1 ∨ i = 2 ∨ i = 3 ∨ i = 4 ∨ i = 5) with rfl | rfl | rfl | rfl | rfl | rfl
      · exact Int32.toInt_inj.mp v0
      · exact Int32.toInt_inj.mp v1
      · exact Int32.toInt_inj.mp v2
      · exact Int32.toInt_inj.mp v3
      · exact Int32.toInt_inj.mp v4
      · exact Int32.toInt_inj.mp v5
    · have b0 := lb_let_b (hl 0 (by omega))
      have b1 := lb_let_b (hl 1 (by omega))
      have b2 := lb_let_b (hl 2 (by omega))
      have b3 := lb_let_b (hl 3 (by omega))
      have b4 := lb_let_b (hl 4 (by omega))
      have b5 := lb_let_b (hl 5 (by omega))
      have b6 := lb_let_b (hl 6 (by omega))
      simp only [lb_pn] at a
      omega
  · intro h
    rw [hW] at h
    obtain ⟨h1, h2, h3⟩ := h
    have h1 : p + 6 ≤ t := h1
    have v0 : f (p + 0) = 108 := h2 0 (by decide)
    have v1 : f (p + 1) = 101 := h2 1 (by decide)
    have v2 : f (p + 2) = 110 := h2 2 (by decide)
    have v3 : f (p + 3) = 103 := h2 3 (by decide)
    have v4 : f (p + 4) = 116 := h2 4 (by decide)
    have v5 : f (p + 5) = 104 := h2 5 (by decide)
    have hl : ∀ i, i < 6 → lb_let f t (p + i) := by
      intro i hi
      refine ⟨by omega, ?_⟩
      rcases (by omega : i = 0 ∨ i = 1 ∨ i = 2 ∨ i = 3 ∨ i = 4 ∨ i = 5) with rfl | rfl | rfl | rfl | rfl | rfl
      · rw [v0]; decide
      · rw [v1]; decide
      · rw [v2]; decide
      · rw [v3]; decide
      · rw [v4]; decide
      · rw [v5]; decide
    have el := lb_l_eq (f := f) (t := t) 6 p hl h3
    unfold lb_iw
    rw [el]
    refine ⟨by decide, by decide, ?_⟩
    obtain ⟨a, _⟩ := lb_pkn 6 (by decide) hl
    have e : lb_pn f p 6 = 119182899770472 := by
      simp only [lb_pn, v0, v1, v2, v3, v4, v5]
      decide +kernel
    have e2 : lb_pk f p 6 = (119182899770472 : Int64) := by
      apply Int64.toBitVec_inj.mp
      apply BitVec.eq_of_toNat_eq
      rw [a, e, hV]
    rw [e2]
    exact lg_cmp1
theorem lb_w_if {f : Nat → Int32} {t p : Nat} : lb_iw f t p (26982 : Int64) ↔ lb_at f t (lb_W (nt_sp + 1 + 14)) p := by
  have hW : lb_W (nt_sp + 1 + 14) = [105, 102] := by decide +kernel
  have hV : (26982 : Int64).toBitVec.toNat = 26982 := by decide +kernel
  constructor
  · intro ⟨h0, h8, hc⟩
    obtain ⟨hl, hn⟩ := lb_l_let (f := f) (t := t) _ p rfl
    have e := lg_cmp0 hc
    obtain ⟨a, _⟩ := lb_pkn (lb_l f t p) (by omega) hl
    rw [e, hV] at a
    clear e hc
    generalize lb_l f t p = n at *
    rcases (by omega : n = 1 ∨ n = 2 ∨ n = 3 ∨ n = 4 ∨ n = 5 ∨ n = 6 ∨ n = 7) with rfl | rfl | rfl | rfl | rfl | rfl | rfl
    · have b0 := lb_let_b (hl 0 (by omega))
      simp only [lb_pn] at a
      omega
    · have b0 := lb_let_b (hl 0 (by omega))
      have b1 := lb_let_b (hl 1 (by omega))
      simp only [lb_pn] at a
      have v0 : (f (p + 0)).toInt = 105 := by omega
      have v1 : (f (p + 1)).toInt = 102 := by omega
      have hq := (hl 1 (by omega)).1
      rw [hW]
      refine ⟨by show p + 2 ≤ t; omega, fun i hi => ?_, hn⟩
      have hi : i < 2 := hi
      rcases (by omega : i = 0 ∨ i = 1) with rfl | rfl
      · exact Int32.toInt_inj.mp v0
      · exact Int32.toInt_inj.mp v1
    · have b0 := lb_let_b (hl 0 (by omega))
      have b1 := lb_let_b (hl 1 (by omega))
      have b2 := lb_let_b (hl 2 (by omega))
      simp only [lb_pn] at a
      omega
    · have b0 := lb_let_b (hl 0 (by omega))
      have b1 := lb_let_b (hl 1 (by omega))
      have b2 := lb_let_b (hl 2 (by omega))
      have b3 := lb_let_b (hl 3 (by omega))
      simp only [lb_pn] at a
      omega
    · have b0 := lb_let_b (hl 0 (by omega))
      have b1 := lb_let_b (hl 1 (by omega))
      have b2 := lb_let_b (hl 2 (by omega))
      have b3 := lb_let_b (hl 3 (by omega))
      have b4 := lb_let_b (hl 4 (by omega))
      simp only [lb_pn] at a
      omega
    · have b0 := lb_let_b (hl 0 (by omega))
      have b1 := lb_let_b (hl 1 (by omega))
      have b2 := lb_let_b (hl 2 (by omega))
      have b3 := lb_let_b (hl 3 (by omega))
      have b4 := lb_let_b (hl 4 (by omega))
      have b5 := lb_let_b (hl 5 (by omega))
      simp only [lb_pn] at a
      omega
    · have b0 := lb_let_b (hl 0 (by omega))
      have b1 := lb_let_b (hl 1 (by omega))
      have b2 := lb_let_b (hl 2 (by omega))
      have b3 := lb_let_b (hl 3 (by omega))
      have b4 := lb_let_b (hl 4 (by omega))
      have b5 := lb_let_b (hl 5 (by omega))
      have b6 := lb_let_b (hl 6 (by omega))
      simp only [lb_pn] at a
      omega
  · intro h
    rw [hW] at h
    obtain ⟨h1, h2, h3⟩ := h
    have h1 : p + 2 ≤ t := h1
    have v0 : f (p + 0) = 105 := h2 0 (by decide)
    have v1 : f (p + 1) = 102 := h2 1 (by decide)
    have hl : ∀ i, i < 2 → lb_let f t (p + i) := by
      intro i hi
      refine ⟨by omega, ?_⟩
      rcases (by omega : i = 0 ∨ i = 1) with rfl | rfl
      · rw [v0]; decide
      · rw [v1]; decide
    have el := lb_l_eq (f := f) (t := t) 2 p hl h3
    unfold lb_iw
    rw [el]
    refine ⟨by decide, by decide, ?_⟩
    obtain ⟨a, _⟩ := lb_pkn 2 (by decide) hl
    have e : lb_pn f p 2 = 26982 := by
      simp only [lb_pn, v0, v1]
      decide +kernel
    have e2 : lb_pk f p 2 = (26982 : Int64) := by
      apply Int64.toBitVec_inj.mp
      apply BitVec.eq_of_toNat_eq
      rw [a, e, hV]
    rw [e2]
    exact lg_cmp1
theorem lb_w_not {f : Nat → Int32} {t p : Nat} : lb_iw f t p (7237492 : Int64) ↔ lb_at f t (lb_W (nt_sp + 1 + 15)) p := by
  have hW : lb_W (nt_sp + 1 + 15) = [110, 111, 116] := by decide +kernel
  have hV : (7237492 : Int64).toBitVec.toNat = 7237492 := by decide +kernel
  constructor
  · intro ⟨h0, h8, hc⟩
    obtain ⟨hl, hn⟩ := lb_l_let (f := f) (t := t) _ p rfl
    have e := lg_cmp0 hc
    obtain ⟨a, _⟩ := lb_pkn (lb_l f t p) (by omega) hl
    rw [e, hV] at a
    clear e hc
    generalize lb_l f t p = n at *
    rcases (by omega : n = 1 ∨ n = 2 ∨ n = 3 ∨ n = 4 ∨ n = 5 ∨ n = 6 ∨ n = 7) with rfl | rfl | rfl | rfl | rfl | rfl | rfl
    · have b0 := lb_let_b (hl 0 (by omega))
      simp only [lb_pn] at a
      omega
    · have b0 := lb_let_b (hl 0 (by omega))
      have b1 := lb_let_b (hl 1 (by omega))
      simp only [lb_pn] at a
      omega
    · have b0 := lb_let_b (hl 0 (by omega))
      have b1 := lb_let_b (hl 1 (by omega))
      have b2 := lb_let_b (hl 2 (by omega))
      simp only [lb_pn] at a
      have v0 : (f (p + 0)).toInt = 110 := by omega
      have v1 : (f (p + 1)).toInt = 111 := by omega
      have v2 : (f (p + 2)).toInt = 116 := by omega
      have hq := (hl 2 (by omega)).1
      rw [hW]
      refine ⟨by show p + 3 ≤ t; omega, fun i hi => ?_, hn⟩
      have hi : i < 3 := hi
      rcases (by omega : i = 0 ∨ i = 1 ∨ i = 2) with rfl | rfl | rfl
      · exact Int32.toInt_inj.mp v0
      · exact Int32.toInt_inj.mp v1
      · exact Int32.toInt_inj.mp v2
    · have b0 := lb_let_b (hl 0 (by omega))
      have b1 := lb_let_b (hl 1 (by omega))
      have b2 := lb_let_b (hl 2 (by omega))
      have b3 := lb_let_b (hl 3 (by omega))
      simp only [lb_pn] at a
      omega
    · have b0 := lb_let_b (hl 0 (by omega))
      have b1 := lb_let_b (hl 1 (by omega))
      have b2 := lb_let_b (hl 2 (by omega))
      have b3 := lb_let_b (hl 3 (by omega))
      have b4 := lb_let_b (hl 4 (by omega))
      simp only [lb_pn] at a
      omega
    · have b0 := lb_let_b (hl 0 (by omega))
      have b1 := lb_let_b (hl 1 (by omega))
      have b2 := lb_let_b (hl 2 (by omega))
      have b3 := lb_let_b (hl 3 (by omega))
      have b4 := lb_let_b (hl 4 (by omega))
      have b5 := lb_let_b (hl 5 (by omega))
      simp only [lb_pn] at a
      omega
    · have b0 := lb_let_b (hl 0 (by omega))
      have b1 := lb_let_b (hl 1 (by omega))
      have b2 := lb_let_b (hl 2 (by omega))
      have b3 := lb_let_b (hl 3 (by omega))
      have b4 := lb_let_b (hl 4 (by omega))
      have b5 := lb_let_b (hl 5 (by omega))
      have b6 := lb_let_b (hl 6 (by omega))
      simp only [lb_pn] at a
      omega
  · intro h
    rw [hW] at h
    obtain ⟨h1, h2, h3⟩ := h
    have h1 : p + 3 ≤ t := h1
    have v0 : f (p + 0) = 110 := h2 0 (by decide)
    have v1 : f (p + 1) = 111 := h2 1 (by decide)
    have v2 : f (p + 2) = 116 := h2 2 (by decide)
    have hl : ∀ i, i < 3 → lb_let f t (p + i) := by
      intro i hi
      refine ⟨by omega, ?_⟩
      rcases (by omega : i = 0 ∨ i = 1 ∨ i = 2) with rfl | rfl | rfl
      · rw [v0]; decide
      · rw [v1]; decide
      · rw [v2]; decide
    have el := lb_l_eq (f := f) (t := t) 3 p hl h3
    unfold lb_iw
    rw [el]
    refine ⟨by decide, by decide, ?_⟩
    obtain ⟨a, _⟩ := lb_pkn 3 (by decide) hl
    have e : lb_pn f p 3 = 7237492 := by
      simp only [lb_pn, v0, v1, v2]
      decide +kernel
    have e2 : lb_pk f p 3 = (7237492 : Int64) := by
      apply Int64.toBitVec_inj.mp
      apply BitVec.eq_of_toNat_eq
      rw [a, e, hV]
    rw [e2]
    exact lg_cmp1
theorem lb_w_and {f : Nat → Int32} {t p : Nat} : lb_iw f t p (6385252 : Int64) ↔ lb_at f t (lb_W (nt_sp + 1 + 16)) p := by
  have hW : lb_W (nt_sp + 1 + 16) = [97, 110, 100] := by decide +kernel
  have hV : (6385252 : Int64).toBitVec.toNat = 6385252 := by decide +kernel
  constructor
  · intro ⟨h0, h8, hc⟩
    obtain ⟨hl, hn⟩ := lb_l_let (f := f) (t := t) _ p rfl
    have e := lg_cmp0 hc
    obtain ⟨a, _⟩ := lb_pkn (lb_l f t p) (by omega) hl
    rw [e, hV] at a
    clear e hc
    generalize lb_l f t p = n at *
    rcases (by omega : n = 1 ∨ n = 2 ∨ n = 3 ∨ n = 4 ∨ n = 5 ∨ n = 6 ∨ n = 7) with rfl | rfl | rfl | rfl | rfl | rfl | rfl
    · have b0 := lb_let_b (hl 0 (by omega))
      simp only [lb_pn] at a
      omega
    · have b0 := lb_let_b (hl 0 (by omega))
      have b1 := lb_let_b (hl 1 (by omega))
      simp only [lb_pn] at a
      omega
    · have b0 := lb_let_b (hl 0 (by omega))
      have b1 := lb_let_b (hl 1 (by omega))
      have b2 := lb_let_b (hl 2 (by omega))
      simp only [lb_pn] at a
      have v0 : (f (p + 0)).toInt = 97 := by omega
      have v1 : (f (p + 1)).toInt = 110 := by omega
      have v2 : (f (p + 2)).toInt = 100 := by omega
      have hq := (hl 2 (by omega)).1
      rw [hW]
      refine ⟨by show p + 3 ≤ t; omega, fun i hi => ?_, hn⟩
      have hi : i < 3 := hi
      rcases (by omega : i = 0 ∨ i = 1 ∨ i = 2) with rfl | rfl | rfl
      · exact Int32.toInt_inj.mp v0
      · exact Int32.toInt_inj.mp v1
      · exact Int32.toInt_inj.mp v2
    · have b0 := lb_let_b (hl 0 (by omega))
      have b1 := lb_let_b (hl 1 (by omega))
      have b2 := lb_let_b (hl 2 (by omega))
      have b3 := lb_let_b (hl 3 (by omega))
      simp only [lb_pn] at a
      omega
    · have b0 := lb_let_b (hl 0 (by omega))
      have b1 := lb_let_b (hl 1 (by omega))
      have b2 := lb_let_b (hl 2 (by omega))
      have b3 := lb_let_b (hl 3 (by omega))
      have b4 := lb_let_b (hl 4 (by omega))
      simp only [lb_pn] at a
      omega
    · have b0 := lb_let_b (hl 0 (by omega))
      have b1 := lb_let_b (hl 1 (by omega))
      have b2 := lb_let_b (hl 2 (by omega))
      have b3 := lb_let_b (hl 3 (by omega))
      have b4 := lb_let_b (hl 4 (by omega))
      have b5 := lb_let_b (hl 5 (by omega))
      simp only [lb_pn] at a
      omega
    · have b0 := lb_let_b (hl 0 (by omega))
      have b1 := lb_let_b (hl 1 (by omega))
      have b2 := lb_let_b (hl 2 (by omega))
      have b3 := lb_let_b (hl 3 (by omega))
      have b4 := lb_let_b (hl 4 (by omega))
      have b5 := lb_let_b (hl 5 (by omega))
      have b6 := lb_let_b (hl 6 (by omega))
      simp only [lb_pn] at a
      omega
  · intro h
    rw [hW] at h
    obtain ⟨h1, h2, h3⟩ := h
    have h1 : p + 3 ≤ t := h1
    have v0 : f (p + 0) = 97 := h2 0 (by decide)
    have v1 : f (p + 1) = 110 := h2 1 (by decide)
    have v2 : f (p + 2) = 100 := h2 2 (by decide)
    have hl : ∀ i, i < 3 → lb_let f t (p + i) := by
      intro i hi
      refine ⟨by omega, ?_⟩
      rcases (by omega : i = 0 ∨ i = 1 ∨ i = 2) with rfl | rfl | rfl
      · rw [v0]; decide
      · rw [v1]; decide
      · rw [v2]; decide
    have el := lb_l_eq (f := f) (t := t) 3 p hl h3
    unfold lb_iw
    rw [el]
    refine ⟨by decide, by decide, ?_⟩
    obtain ⟨a, _⟩ := lb_pkn 3 (by decide) hl
    have e : lb_pn f p 3 = 6385252 := by
      simp only [lb_pn, v0, v1, v2]
      decide +kernel
    have e2 : lb_pk f p 3 = (6385252 : Int64) := by
      apply Int64.toBitVec_inj.mp
      apply BitVec.eq_of_toNat_eq
      rw [a, e, hV]
    rw [e2]
    exact lg_cmp1
theorem lb_w_or {f : Nat → Int32} {t p : Nat} : lb_iw f t p (28530 : Int64) ↔ lb_at f t (lb_W (nt_sp + 1 + 17)) p := by
  have hW : lb_W (nt_sp + 1 + 17) = [111, 114] := by decide +kernel
  have hV : (28530 : Int64).toBitVec.toNat = 28530 := by decide +kernel
  constructor
  · intro ⟨h0, h8, hc⟩
    obtain ⟨hl, hn⟩ := lb_l_let (f := f) (t := t) _ p rfl
    have e := lg_cmp0 hc
    obtain ⟨a, _⟩ := lb_pkn (lb_l f t p) (by omega) hl
    rw [e, hV] at a
    clear e hc
    generalize lb_l f t p = n at *
    rcases (by omega : n = 1 ∨ n = 2 ∨ n = 3 ∨ n = 4 ∨ n = 5 ∨ n = 6 ∨ n = 7) with rfl | rfl | rfl | rfl | rfl | rfl | rfl
    · have b0 := lb_let_b (hl 0 (by omega))
      simp only [lb_pn] at a
      omega
    · have b0 := lb_let_b (hl 0 (by omega))
      have b1 := lb_let_b (hl 1 (by omega))
      simp only [lb_pn] at a
      have v0 : (f (p + 0)).toInt = 111 := by omega
      have v1 : (f (p + 1)).toInt = 114 := by omega
      have hq := (hl 1 (by omega)).1
      rw [hW]
      refine ⟨by show p + 2 ≤ t; omega, fun i hi => ?_, hn⟩
      have hi : i < 2 := hi
      rcases (by omega : i = 0 ∨ i = 1) with rfl | rfl
      · exact Int32.toInt_inj.mp v0
      · exact Int32.toInt_inj.mp v1
    · have b0 := lb_let_b (hl 0 (by omega))
      have b1 := lb_let_b (hl 1 (by omega))
      have b2 := lb_let_b (hl 2 (by omega))
      simp only [lb_pn] at a
      omega
    · have b0 := lb_let_b (hl 0 (by omega))
      have b1 := lb_let_b (hl 1 (by omega))
      have b2 := lb_let_b (hl 2 (by omega))
      have b3 := lb_let_b (hl 3 (by omega))
      simp only [lb_pn] at a
      omega
    · have b0 := lb_let_b (hl 0 (by omega))
      have b1 := lb_let_b (hl 1 (by omega))
      have b2 := lb_let_b (hl 2 (by omega))
      have b3 := lb_let_b (hl 3 (by omega))
      have b4 := lb_let_b (hl 4 (by omega))
      simp only [lb_pn] at a
      omega
    · have b0 := lb_let_b (hl 0 (by omega))
      have b1 := lb_let_b (hl 1 (by omega))
      have b2 := lb_let_b (hl 2 (by omega))
      have b3 := lb_let_b (hl 3 (by omega))
      have b4 := lb_let_b (hl 4 (by omega))
      have b5 := lb_let_b (hl 5 (by omega))
      simp only [lb_pn] at a
      omega
    · have b0 := lb_let_b (hl 0 (by omega))
      have b1 := lb_let_b (hl 1 (by omega))
      have b2 := lb_let_b (hl 2 (by omega))
      have b3 := lb_let_b (hl 3 (by omega))
      have b4 := lb_let_b (hl 4 (by omega))
      have b5 := lb_let_b (hl 5 (by omega))
      have b6 := lb_let_b (hl 6 (by omega))
      simp only [lb_pn] at a
      omega
  · intro h
    rw [hW] at h
    obtain ⟨h1, h2, h3⟩ := h
    have h1 : p + 2 ≤ t := h1
    have v0 : f (p + 0) = 111 := h2 0 (by decide)
    have v1 : f (p + 1) = 114 := h2 1 (by decide)
    have hl : ∀ i, i < 2 → lb_let f t (p + i) := by
      intro i hi
      refine ⟨by omega, ?_⟩
      rcases (by omega : i = 0 ∨ i = 1) with rfl | rfl
      · rw [v0]; decide
      · rw [v1]; decide
    have el := lb_l_eq (f := f) (t := t) 2 p hl h3
    unfold lb_iw
    rw [el]
    refine ⟨by decide, by decide, ?_⟩
    obtain ⟨a, _⟩ := lb_pkn 2 (by decide) hl
    have e : lb_pn f p 2 = 28530 := by
      simp only [lb_pn, v0, v1]
      decide +kernel
    have e2 : lb_pk f p 2 = (28530 : Int64) := by
      apply Int64.toBitVec_inj.mp
      apply BitVec.eq_of_toNat_eq
      rw [a, e, hV]
    rw [e2]
    exact lg_cmp1
