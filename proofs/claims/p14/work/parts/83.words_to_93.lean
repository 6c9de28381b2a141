section
/-! a packed word is the word -/
theorem lb_w_kinds {f : Nat → Int32} {t p : Nat} : lb_iw f t p (461330343027 : Int64) ↔ lb_at f t (lb_W (nt_sp + 1 + 0)) p := by
  have hW : lb_W (nt_sp + 1 + 0) = [107, 105, 110, 100, 115] := by decide +kernel
  have hV : (461330343027 : Int64).toBitVec.toNat = 461330343027 := by decide +kernel
  constructor
  · intro ⟨h0, h8, hc⟩
    obtain ⟨hl, hn⟩ := lb_l_let (f := f) (t := t) _ p rfl
    have e := lg_cmp0 hc
    obtain ⟨a, _⟩ := lb_pkn (lb_l f t p) (by omega) hl
    rw [e, hV] at a
    clear e hc
    generalize lb_l f t p = n at *
    rcases (by omega : n = 1 ∨ n = 2 ∨ n = 3 ∨ n = 4 ∨ n = 5 ∨ n = 6 ∨ n = 7) with rfl | rfl | rfl | rfl | rfl | rfl | rfl
    · have b0 := lb_let_b (hl 0 (by omega))
      simp only [lb_pn] at a
      omega
    · have b0 := lb_let_b (hl 0 (by omega))
      have b1 := lb_let_b (hl 1 (by omega))
      simp only [lb_pn] at a
      omega
    · have b0 := lb_let_b (hl 0 (by omega))
      have b1 := lb_let_b (hl 1 (by omega))
      have b2 := lb_let_b (hl 2 (by omega))
      simp only [lb_pn] at a
      omega
    · have b0 := lb_let_b (hl 0 (by omega))
      have b1 := lb_let_b (hl 1 (by omega))
      have b2 := lb_let_b (hl 2 (by omega))
      have b3 := lb_let_b (hl 3 (by omega))
      simp only [lb_pn] at a
      omega
    · have b0 := lb_let_b (hl 0 (by omega))
      have b1 := lb_let_b (hl 1 (by omega))
      have b2 := lb_let_b (hl 2 (by omega))
      have b3 := lb_let_b (hl 3 (by omega))
      have b4 := lb_let_b (hl 4 (by omega))
      simp only [lb_pn] at a
      have v0 : (f (p + 0)).toInt = 107 := by omega
      have v1 : (f (p + 1)).toInt = 105 := by omega
      have v2 : (f (p + 2)).toInt = 110 := by omega
      have v3 : (f (p + 3)).toInt = 100 := by omega
      have v4 : (f (p + 4)).toInt = 115 := by omega
      have hq := (hl 4 (by omega)).1
      rw [hW]
      refine ⟨by show p + 5 ≤ t; omega, fun i hi => ?_, hn⟩
      have hi : i < 5 := hi
      rcases (by omega : i = 0 ∨ i = 1 ∨ i = 2 ∨ i = 3 ∨ i = 4) with rfl | rfl | rfl | rfl | rfl
      · exact Int32.toInt_inj.mp v0
      · exact Int32.toInt_inj.mp v1
      · exact Int32.toInt_inj.mp v2
      · exact Int32.toInt_inj.mp v3
      · exact Int32.toInt_inj.mp v4
    · have b0 := lb_let_b (hl 0 (by omega))
      have b1 := lb_let_b (hl 1 (by omega))
      have b2 := lb_let_b (hl 2 (by omega))
      have b3 := lb_let_b (hl 3 (by omega))
      have b4 := lb_let_b (hl 4 (by omega))
      have b5 := lb_let_b (hl 5 (by omega))
      simp only [lb_pn] at a
      omega
    · have b0 := lb_let_b (hl 0 (by omega))
      have b1 := lb_let_b (hl 1 (by omega))
      have b2 := lb_let_b (hl 2 (by omega))
      have b3 := lb_let_b (hl 3 (by omega))
      have b4 := lb_let_b (hl 4 (by omega))
      have b5 := lb_let_b (hl 5 (by omega))
      have b6 := lb_let_b (hl 6 (by omega))
      simp only [lb_pn] at a
      omega
  · intro h
    rw [hW] at h
    obtain ⟨h1, h2, h3⟩ := h
    have h1 : p + 5 ≤ t := h1
    have v0 : f (p + 0) = 107 := h2 0 (by decide)
    have v1 : f (p + 1) = 105 := h2 1 (by decide)
    have v2 : f (p + 2) = 110 := h2 2 (by decide)
    have v3 : f (p + 3) = 100 := h2 3 (by decide)
    have v4 : f (p + 4) = 115 := h2 4 (by decide)
    have hl : ∀ i, i < 5 → lb_let f t (p + i) := by
      intro i hi
      refine ⟨by omega, ?_⟩
      rcases (by omega : i = 0 ∨ i = 1 ∨ i = 2 ∨ i = 3 ∨ i = 4) with rfl | rfl | rfl | rfl | rfl
      · rw [v0]; decide
      · rw [v1]; decide
      · rw [v2]; decide
      · rw [v3]; decide
      · rw [v4]; decide
    have el := lb_l_eq (f := f) (t := t) 5 p hl h3
    unfold lb_iw
    rw [el]
    refine ⟨by decide, by decide, ?_⟩
    obtain ⟨a, _⟩ := lb_pkn 5 (by decide) hl
    have e : lb_pn f p 5 = 461330343027 := by
      simp only [lb_pn, v0, v1, v2, v3, v4]
      decide +kernel
    have e2 : lb_pk f p 5 = (461330343027 : Int64) := by
      apply Int64.toBitVec_inj.mp
      apply BitVec.eq_of_toNat_eq
      rw [a, e, hV]
    rw [e2]
    exact lg_cmp1
theorem lb_w_ship {f : Nat → Int32} {t p : Nat} : lb_iw f t p (1936222576 : Int64) ↔ lb_at f t (lb_W (nt_sp + 1 + 1)) p := by
  have hW : lb_W (nt_sp + 1 + 1) = [115, 104, 105, 112] := by decide +kernel
  have hV : (1936222576 : Int64).toBitVec.toNat = 1936222576 := by decide +kernel
  constructor
  · intro ⟨h0, h8, hc⟩
    obtain ⟨hl, hn⟩ := lb_l_let (f := f) (t := t) _ p rfl
    have e := lg_cmp0 hc
    obtain ⟨a, _⟩ := lb_pkn (lb_l f t p) (by omega) hl
    rw [e, hV] at a
    clear e hc
    generalize lb_l f t p = n at *
    rcases (by omega : n = 1 ∨ n = 2 ∨ n = 3 ∨ n = 4 ∨ n = 5 ∨ n = 6 ∨ n = 7) with rfl | rfl | rfl | rfl | rfl | rfl | rfl
    · have b0 := lb_let_b (hl 0 (by omega))
      simp only [lb_pn] at a
      omega
    · have b0 := lb_let_b (hl 0 (by omega))
      have b1 := lb_let_b (hl 1 (by omega))
      simp only [lb_pn] at a
      omega
    · have b0 := lb_let_b (hl 0 (by omega))
      have b1 := lb_let_b (hl 1 (by omega))
      have b2 := lb_let_b (hl 2 (by omega))
      simp only [lb_pn] at a
      omega
    · have b0 := lb_let_b (hl 0 (by omega))
      have b1 := lb_let_b (hl 1 (by omega))
      have b2 := lb_let_b (hl 2 (by omega))
      have b3 := lb_let_b (hl 3 (by omega))
      simp only [lb_pn] at a
      have v0 : (f (p + 0)).toInt = 115 := by omega
      have v1 : (f (p + 1)).toInt = 104 := by omega
      have v2 : (f (p + 2)).toInt = 105 := by omega
      have v3 : (f (p + 3)).toInt = 112 := by omega
      have hq := (hl 3 (by omega)).1
      rw [hW]
      refine ⟨by show p + 4 ≤ t; omega, fun i hi => ?_, hn⟩
      have hi : i < 4 := hi
      rcases (by omega : i = 0 ∨ i = 1 ∨ i = 2 ∨ i = 3) with rfl | rfl | rfl | rfl
      · exact Int32.toInt_inj.mp v0
      · exact Int32.toInt_inj.mp v1
      · exact Int32.toInt_inj.mp v2
      · exact Int32.toInt_inj.mp v3
    · have b0 := lb_let_b (hl 0 (by omega))
      have b1 := lb_let_b (hl 1 (by omega))
      have b2 := lb_let_b (hl 2 (by omega))
      have b3 := lb_let_b (hl 3 (by omega))
      have b4 := lb_let_b (hl 4 (by omega))
      simp only [lb_pn] at a
      omega
    · have b0 := lb_let_b (hl 0 (by omega))
      have b1 := lb_let_b (hl 1 (by omega))
      have b2 := lb_let_b (hl 2 (by omega))
      have b3 := lb_let_b (hl 3 (by omega))
      have b4 := lb_let_b (hl 4 (by omega))
      have b5 := lb_let_b (hl 5 (by omega))
      simp only [lb_pn] at a
      omega
    · have b0 := lb_let_b (hl 0 (by omega))
      have b1 := lb_let_b (hl 1 (by omega))
      have b2 := lb_let_b (hl 2 (by omega))
      have b3 := lb_let_b (hl 3 (by omega))
      have b4 := lb_let_b (hl 4 (by omega))
      have b5 := lb_let_b (hl 5 (by omega))
      have b6 := lb_let_b (hl 6 (by omega))
      simp only [lb_pn] at a
      omega
  · intro h
    rw [hW] at h
    obtain ⟨h1, h2, h3⟩ := h
    have h1 : p + 4 ≤ t := h1
    have v0 : f (p + 0) = 115 := h2 0 (by decide)
    have v1 : f (p + 1) = 104 := h2 1 (by decide)
    have v2 : f (p + 2) = 105 := h2 2 (by decide)
    have v3 : f (p + 3) = 112 := h2 3 (by decide)
    have hl : ∀ i, i < 4 → lb_let f t (p + i) := by
      intro i hi
      refine ⟨by omega, ?_⟩
      rcases (by omega : i = 0 ∨ i = 1 ∨ i = 2 ∨ i = 3) with rfl | rfl | rfl | rfl
      · rw [v0]; decide
      · rw [v1]; decide
      · rw [v2]; decide
      · rw [v3]; decide
    have el := lb_l_eq (f := f) (t := t) 4 p hl h3
    unfold lb_iw
    rw [el]
    refine ⟨by decide, by decide, ?_⟩
    obtain ⟨a, _⟩ := lb_pkn 4 (by decide) hl
    have e : lb_pn f p 4 = 1936222576 := by
      simp only [lb_pn, v0, v1, v2, v3]
      decide +kernel
    have e2 : lb_pk f p 4 = (1936222576 : Int64) := by
      apply Int64.toBitVec_inj.mp
      apply BitVec.eq_of_toNat_eq
      rw [a, e, hV]
    rw [e2]
    exact lg_cmp1
theorem lb_w_plank {f : Nat → Int32} {t p : Nat} : lb_iw f t p (482854661739 : Int64) ↔ lb_at f t (lb_W (nt_sp + 1 + 2)) p := by
  have hW : lb_W (nt_sp + 1 + 2) = [112, 108, 97, 110, 107] := by decide +kernel
  have hV : (482854661739 : Int64).toBitVec.toNat = 482854661739 := by decide +kernel
  constructor
  · intro ⟨h0, h8, hc⟩
    obtain ⟨hl, hn⟩ := lb_l_let (f := f) (t := t) _ p rfl
    have e := lg_cmp0 hc
    obtain ⟨a, _⟩ := lb_pkn (lb_l f t p) (by omega) hl
    rw [e, hV] at a
    clear e hc
    generalize lb_l f t p = n at *
    rcases (by omega : n = 1 ∨ n = 2 ∨ n = 3 ∨ n = 4 ∨ n = 5 ∨ n = 6 ∨ n = 7) with rfl | rfl | rfl | rfl | rfl | rfl | rfl
    · have b0 := lb_let_b (hl 0 (by omega))
      simp only [lb_pn] at a
      omega
    · have b0 := lb_let_b (hl 0 (by omega))
      have b1 := lb_let_b (hl 1 (by omega))
      simp only [lb_pn] at a
      omega
    · have b0 := lb_let_b (hl 0 (by omega))
      have b1 := lb_let_b (hl 1 (by omega))
      have b2 := lb_let_b (hl 2 (by omega))
      simp only [lb_pn] at a
      omega
    · have b0 := lb_let_b (hl 0 (by omega))
      have b1 := lb_let_b (hl 1 (by omega))
      have b2 := lb_let_b (hl 2 (by omega))
      have b3 := lb_let_b (hl 3 (by omega))
      simp only [lb_pn] at a
      omega
    · have b0 := lb_let_b (hl 0 (by omega))
      have b1 := lb_let_b (hl 1 (by omega))
      have b2 := lb_let_b (hl 2 (by omega))
      have b3 := lb_let_b (hl 3 (by omega))
      have b4 := lb_let_b (hl 4 (by omega))
      simp only [lb_pn] at a
      have v0 : (f (p + 0)).toInt = 112 := by omega
      have v1 : (f (p + 1)).toInt = 108 := by omega
      have v2 : (f (p + 2)).toInt = 97 := by omega
      have v3 : (f (p + 3)).toInt = 110 := by omega
      have v4 : (f (p + 4)).toInt = 107 := by omega
      have hq := (hl 4 (by omega)).1
      rw [hW]
      refine ⟨by show p + 5 ≤ t; omega, fun i hi => ?_, hn⟩
      have hi : i < 5 := hi
      rcases (by omega : i = 0 ∨ i = 1 ∨ i = 2 ∨ i = 3 ∨ i = 4) with rfl | rfl | rfl | rfl | rfl
      · exact Int32.toInt_inj.mp v0
      · exact Int32.toInt_inj.mp v1
      · exact Int32.toInt_inj.mp v2
      · exact Int32.toInt_inj.mp v3
      · exact Int32.toInt_inj.mp v4
    · have b0 := lb_let_b (hl 0 (by omega))
      have b1 := lb_let_b (hl 1 (by omega))
      have b2 := lb_let_b (hl 2 (by omega))
      have b3 := lb_let_b (hl 3 (by omega))
      have b4 := lb_let_b (hl 4 (by omega))
      have b5 := lb_let_b (hl 5 (by omega))
      simp only [lb_pn] at a
      omega
    · have b0 := lb_let_b (hl 0 (by omega))
      have b1 := lb_let_b (hl 1 (by omega))
      have b2 := lb_let_b (hl 2 (by omega))
      have b3 := lb_let_b (hl 3 (by omega))
      have b4 := lb_let_b (hl 4 (by omega))
      have b5 := lb_let_b (hl 5 (by omega))
      have b6 := lb_let_b (hl 6 (by omega))
      simp only [lb_pn] at a
      omega
  · intro h
    rw [hW] at h
    obtain ⟨h1, h2, h3⟩ := h
    have h1 : p + 5 ≤ t := h1
    have v0 : f (p + 0) = 112 := h2 0 (by decide)
    have v1 : f (p + 1) = 108 := h2 1 (by decide)
    have v2 : f (p + 2) = 97 := h2 2 (by decide)
    have v3 : f (p + 3) = 110 := h2 3 (by decide)
    have v4 : f (p + 4) = 107 := h2 4 (by decide)
    have hl : ∀ i, i < 5 → lb_let f t (p + i) := by
      intro i hi
      refine ⟨by omega, ?_⟩
      rcases (by omega : i = 0 ∨ i = 1 ∨ i = 2 ∨ i = 3 ∨ i = 4) with rfl | rfl | rfl | rfl | rfl
      · rw [v0]; decide
      · rw [v1]; decide
      · rw [v2]; decide
      · rw [v3]; decide
      · rw [v4]; decide
    have el := lb_l_eq (f := f) (t := t) 5 p hl h3
    unfold lb_iw
    rw [el]
    refine ⟨by decide, by decide, ?_⟩
    obtain ⟨a, _⟩ := lb_pkn 5 (by decide) hl
    have e : lb_pn f p 5 = 482854661739 := by
      simp only [lb_pn, v0, v1, v2, v3, v4]
      decide +kernel
    have e2 : lb_pk f p 5 = (482854661739 : Int64) := by
      apply Int64.toBitVec_inj.mp
      apply BitVec.eq_of_toNat_eq
      rw [a, e, hV]
    rw [e2]
    exact lg_cmp1
theorem lb_w_voyage {f : Nat → Int32} {t p : Nat} : lb_iw f t p (130221149874021 : Int64) ↔ lb_at f t (lb_W (nt_sp + 1 + 3)) p := by
  have hW : lb_W (nt_sp + 1 + 3) = [118, 111, 121, 97, 103, 101] := by decide +kernel
  have hV : (130221149874021 : Int64).toBitVec.toNat = 130221149874021 := by decide +kernel
  constructor
  · intro ⟨h0, h8, hc⟩
    obtain ⟨hl, hn⟩ := lb_l_let (f := f) (t := t) _ p rfl
    have e := lg_cmp0 hc
    obtain ⟨a, _⟩ := lb_pkn (lb_l f t p) (by omega) hl
    rw [e, hV] at a
    clear e hc
    generalize lb_l f t p = n at *
    rcases (by omega : n = 1 ∨ n = 2 ∨ n = 3 ∨ n = 4 ∨ n = 5 ∨ n = 6 ∨ n = 7) with rfl | rfl | rfl | rfl | rfl | rfl | rfl
    · have b0 := lb_let_b (hl 0 (by omega))
      simp only [lb_pn] at a
      omega
    · have b0 := lb_let_b (hl 0 (by omega))
      have b1 := lb_let_b (hl 1 (by omega))
      simp only [lb_pn] at a
      omega
    · have b0 := lb_let_b (hl 0 (by omega))
      have b1 := lb_let_b (hl 1 (by omega))
      have b2 := lb_let_b (hl 2 (by omega))
      simp only [lb_pn] at a
      omega
    · have b0 := lb_let_b (hl 0 (by omega))
      have b1 := lb_let_b (hl 1 (by omega))
      have b2 := lb_let_b (hl 2 (by omega))
      have b3 := lb_let_b (hl 3 (by omega))
      simp only [lb_pn] at a
      omega
    · have b0 := lb_let_b (hl 0 (by omega))
      have b1 := lb_let_b (hl 1 (by omega))
      have b2 := lb_let_b (hl 2 (by omega))
      have b3 := lb_let_b (hl 3 (by omega))
      have b4 := lb_let_b (hl 4 (by omega))
      simp only [lb_pn] at a
      omega
    · have b0 := lb_let_b (hl 0 (by omega))
      have b1 := lb_let_b (hl 1 (by omega))
      have b2 := lb_let_b (hl 2 (by omega))
      have b3 := lb_let_b (hl 3 (by omega))
      have b4 := lb_let_b (hl 4 (by omega))
      have b5 := lb_let_b (hl 5 (by omega))
      simp only [lb_pn] at a
      have v0 : (f (p + 0)).toInt = 118 := by omega
      have v1 : (f (p + 1)).toInt = 111 := by omega
      have v2 : (f (p + 2)).toInt = 121 := by omega
      have v3 : (f (p + 3)).toInt = 97 := by omega
      have v4 : (f (p + 4)).toInt = 103 := by omega
      have v5 : (f (p + 5)).toInt = 101 := by omega
      have hq := (hl 5 (by omega)).1
      rw [hW]
      refine ⟨by show p + 6 ≤ t; omega, fun i hi => ?_, hn⟩
      have hi : i < 6 := hi
      rcases (by omega : i = 0 ∨ i = 1 ∨ i = 2 ∨ i = 3 ∨ i = 4 ∨ i = 5) with rfl | rfl | rfl | rfl | rfl | rfl
      · exact Int32.toInt_inj.mp v0
      · exact Int32.toInt_inj.mp v1
      · exact Int32.toInt_inj.mp v2
      · exact Int32.toInt_inj.mp v3
      · exact Int32.toInt_inj.mp v4
      · exact Int32.toInt_inj.mp v5
    · have b0 := lb_let_b (hl 0 (by omega))
      have b1 := lb_let_b (hl 1 (by omega))
      have b2 := lb_let_b (hl 2 (by omega))
      have b3 := lb_let_b (hl 3 (by omega))
      have b4 := lb_let_b (hl 4 (by omega))
      have b5 := lb_let_b (hl 5 (by omega))
      have b6 := lb_let_b (hl 6 (by omega))
      simp only [lb_pn] at a
      omega
  · intro h
    rw [hW] at h
    obtain ⟨h1, h2, h3⟩ := h
    have h1 : p + 6 ≤ t := h1
    have v0 : f (p + 0) = 118 := h2 0 (by decide)
    have v1 : f (p + 1) = 111 := h2 1 (by decide)
    have v2 : f (p + 2) = 121 := h2 2 (by decide)
    have v3 : f (p + 3) = 97 := h2 3 (by decide)
    have v4 : f (p + 4) = 103 := h2 4 (by decide)
    have v5 : f (p + 5) = 101 := h2 5 (by decide)
    have hl : ∀ i, i < 6 → lb_let f t (p + i) := by
      intro i hi
      refine ⟨by omega, ?_⟩
      rcases (by omega : i = 0 ∨ i = 1 ∨ i = 2 ∨ i = 3 ∨ i = 4 ∨ i = 5) with rfl | rfl | rfl | rfl | rfl | rfl
      · rw [v0]; decide
      · rw [v1]; decide
      · rw [v2]; decide
      · rw [v3]; decide
      · rw [v4]; decide
      · rw [v5]; decide
    have el := lb_l_eq (f := f) (t := t) 6 p hl h3
    unfold lb_iw
    rw [el]
    refine ⟨by decide, by decide, ?_⟩
    obtain ⟨a, _⟩ := lb_pkn 6 (by decide) hl
    have e : lb_pn f p 6 = 130221149874021 := by
      simp only [lb_pn, v0, v1, v2, v3, v4, v5]
      decide +kernel
    have e2 : lb_pk f p 6 = (130221149874021 : Int64) := by
      apply Int64.toBitVec_inj.mp
      apply BitVec.eq_of_toNat_eq
      rw [a, e, hV]
    rw [e2]
    exact lg_cmp1
theorem lb_w_hands {f : Nat → Int32} {t p : Nat} : lb_iw f t p (448311223411 : Int64) ↔ lb_at f t (lb_W (nt_sp + 1 + 4)) p := by
  have hW : lb_W (nt_sp + 1 + 4) = [104, 97, 110, 100, 115] := by decide +kernel
  have hV : (448311223411 : Int64).toBitVec.toNat = 448311223411 := by decide +kernel
  constructor
  · intro ⟨h0, h8, hc⟩
    obtain ⟨hl, hn⟩ := lb_l_let (f := f) (t := t) _ p rfl
    have e := lg_cmp0 hc
    obtain ⟨a, _⟩ := lb_pkn (lb_l f t p) (by omega) hl
    rw [e, hV] at a
    clear e hc
    generalize lb_l f t p = n at *
    rcases (by omega : n = 1 ∨ n = 2 ∨ n = 3 ∨ n = 4 ∨ n = 5 ∨ n = 6 ∨ n = 7) with rfl | rfl | rfl | rfl | rfl | rfl | rfl
    · have b0 := lb_let_b (hl 0 (by omega))
      simp only [lb_pn] at a
      omega
    · have b0 := lb_let_b (hl 0 (by omega))
      have b1 := lb_let_b (hl 1 (by omega))
      simp only [lb_pn] at a
      omega
    · have b0 := lb_let_b (hl 0 (by omega))
      have b1 := lb_let_b (hl 1 (by omega))
      have b2 := lb_let_b (hl 2 (by omega))
      simp only [lb_pn] at a
      omega
    · have b0 := lb_let_b (hl 0 (by omega))
      have b1 := lb_let_b (hl 1 (by omega))
      have b2 := lb_let_b (hl 2 (by omega))
      have b3 := lb_let_b (hl 3 (by omega))
      simp only [lb_pn] at a
      omega
    · have b0 := lb_let_b (hl 0 (by omega))
      have b1 := lb_let_b (hl 1 (by omega))
      have b2 := lb_let_b (hl 2 (by omega))
      have b3 := lb_let_b (hl 3 (by omega))
      have b4 := lb_let_b (hl 4 (by omega))
      simp only [lb_pn] at a
      have v0 : (f (p + 0)).toInt = 104 := by omega
      have v1 : (f (p + 1)).toInt = 97 := by omega
      have v2 : (f (p + 2)).toInt = 110 := by omega
      have v3 : (f (p + 3)).toInt = 100 := by omega
      have v4 : (f (p + 4)).toInt = 115 := by omega
      have hq := (hl 4 (by omega)).1
      rw [hW]
      refine ⟨by show p + 5 ≤ t; omega, fun i hi => ?_, hn⟩
      have hi : i < 5 := hi
      rcases (by omega : i = 0 ∨ i = 1 ∨ i = 2 ∨ i = 3 ∨ i = 4) with rfl | rfl | rfl | rfl | rfl
      · exact Int32.toInt_inj.mp v0
      · exact Int32.toInt_inj.mp v1
      · exact Int32.toInt_inj.mp v2
      · exact Int32.toInt_inj.mp v3
      · exact Int32.toInt_inj.mp v4
    · have b0 := lb_let_b (hl 0 (by omega))
      have b1 := lb_let_b (hl 1 (by omega))
      have b2 := lb_let_b (hl 2 (by omega))
      have b3 := lb_let_b (hl 3 (by omega))
      have b4 := lb_let_b (hl 4 (by omega))
      have b5 := lb_let_b (hl 5 (by omega))
      simp only [lb_pn] at a
      omega
    · have b0 := lb_let_b (hl 0 (by omega))
      have b1 := lb_let_b (hl 1 (by omega))
      have b2 := lb_let_b (hl 2 (by omega))
      have b3 := lb_let_b (hl 3 (by omega))
      have b4 := lb_let_b (hl 4 (by omega))
      have b5 := lb_let_b (hl 5 (by omega))
      have b6 := lb_let_b (hl 6 (by omega))
      simp only [lb_pn] at a
      omega
  · intro h
    rw [hW] at h
    obtain ⟨h1, h2, h3⟩ := h
    have h1 : p + 5 ≤ t := h1
    have v0 : f (p + 0) = 104 := h2 0 (by decide)
    have v1 : f (p + 1) = 97 := h2 1 (by decide)
    have v2 : f (p + 2) = 110 := h2 2 (by decide)
    have v3 : f (p + 3) = 100 := h2 3 (by decide)
    have v4 : f (p + 4) = 115 := h2 4 (by decide)
    have hl : ∀ i, i < 5 → lb_let f t (p + i) := by
      intro i hi
      refine ⟨by omega, ?_⟩
      rcases (by omega : i = 0 ∨ i = 1 ∨ i = 2 ∨ i = 3 ∨ i = 4) with rfl | rfl | rfl | rfl | rfl
      · rw [v0]; decide
      · rw [v1]; decide
      · rw [v2]; decide
      · rw [v3]; decide
      · rw [v4]; decide
    have el := lb_l_eq (f := f) (t := t) 5 p hl h3
    unfold lb_iw
    rw [el]
    refine ⟨by decide, by decide, ?_⟩
    obtain ⟨a, _⟩ := lb_pkn 5 (by decide) hl
    have e : lb_pn f p 5 = 448311223411 := by
      simp only [lb_pn, v0, v1, v2, v3, v4]
      decide +kernel
    have e2 : lb_pk f p 5 = (448311223411 : Int64) := by
      apply Int64.toBitVec_inj.mp
      apply BitVec.eq_of_toNat_eq
      rw [a, e, hV]
    rw [e2]
    exact lg_cmp1
theorem lb_w_take {f : Nat → Int32} {t p : Nat} : lb_iw f t p (1952541541 : Int64) ↔ lb_at f t (lb_W (nt_sp + 1 + 5)) p := by
  have hW : lb_W (nt_sp + 1 + 5) = [116, 97, 107, 101] := by decide +kernel
  have hV : (1952541541 : Int64).toBitVec.toNat = 1952541541 := by decide +kernel
  constructor
  · intro ⟨h0, h8, hc⟩
    obtain ⟨hl, hn⟩ := lb_l_let (f := f) (t := t) _ p rfl
    have e := lg_cmp0 hc
    obtain ⟨a, _⟩ := lb_pkn (lb_l f t p) (by omega) hl
    rw [e, hV] at a
    clear e hc
    generalize lb_l f t p = n at *
    rcases (by omega : n = 1 ∨ n = 2 ∨ n = 3 ∨ n = 4 ∨ n = 5 ∨ n = 6 ∨ n = 7) with rfl | rfl | rfl | rfl | rfl | rfl | rfl
    · have b0 := lb_let_b (hl 0 (by omega))
      simp only [lb_pn] at a
      omega
    · have b0 := lb_let_b (hl 0 (by omega))
      have b1 := lb_let_b (hl 1 (by omega))
      simp only [lb_pn] at a
      omega
    · have b0 := lb_let_b (hl 0 (by omega))
      have b1 := lb_let_b (hl 1 (by omega))
      have b2 := lb_let_b (hl 2 (by omega))
      simp only [lb_pn] at a
      omega
    · have b0 := lb_let_b (hl 0 (by omega))
      have b1 := lb_let_b (hl 1 (by omega))
      have b2 := lb_let_b (hl 2 (by omega))
      have b3 := lb_let_b (hl 3 (by omega))
      simp only [lb_pn] at a
      have v0 : (f (p + 0)).toInt = 116 := by omega
      have v1 : (f (p + 1)).toInt = 97 := by omega
      have v2 : (f (p + 2)).toInt = 107 := by omega
      have v3 : (f (p + 3)).toInt = 101 := by omega
      have hq := (hl 3 (by omega)).1
      rw [hW]
      refine ⟨by show p + 4 ≤ t; omega, fun i hi => ?_, hn⟩
      have hi : i < 4 := hi
      rcases (by omega : i = 0 ∨ i = 1 ∨ i = 2 ∨ i = 3) with rfl | rfl | rfl | rfl
      · exact Int32.toInt_inj.mp v0
      · exact Int32.toInt_inj.mp v1
      · exact Int32.toInt_inj.mp v2
      · exact Int32.toInt_inj.mp v3
    · have b0 := lb_let_b (hl 0 (by omega))
      have b1 := lb_let_b (hl 1 (by omega))
      have b2 := lb_let_b (hl 2 (by omega))
      have b3 := lb_let_b (hl 3 (by omega))
      have b4 := lb_let_b (hl 4 (by omega))
      simp only [lb_pn] at a
      omega
    · have b0 := lb_let_b (hl 0 (by omega))
      have b1 := lb_let_b (hl 1 (by omega))
      have b2 := lb_let_b (hl 2 (by omega))
      have b3 := lb_let_b (hl 3 (by omega))
      have b4 := lb_let_b (hl 4 (by omega))
      have b5 := lb_let_b (hl 5 (by omega))
      simp only [lb_pn] at a
      omega
    · have b0 := lb_let_b (hl 0 (by omega))
      have b1 := lb_let_b (hl 1 (by omega))
      have b2 := lb_let_b (hl 2 (by omega))
      have b3 := lb_let_b (hl 3 (by omega))
      have b4 := lb_let_b (hl 4 (by omega))
      have b5 := lb_let_b (hl 5 (by omega))
      have b6 := lb_let_b (hl 6 (by omega))
      simp only [lb_pn] at a
      omega
  · intro h
    rw [hW] at h
    obtain ⟨h1, h2, h3⟩ := h
    have h1 : p + 4 ≤ t := h1
    have v0 : f (p + 0) = 116 := h2 0 (by decide)
    have v1 : f (p + 1) = 97 := h2 1 (by decide)
    have v2 : f (p + 2) = 107 := h2 2 (by decide)
    have v3 : f (p + 3) = 101 := h2 3 (by decide)
    have hl : ∀ i, i < 4 → lb_let f t (p + i) := by
      intro i hi
      refine ⟨by omega, ?_⟩
      rcases (by omega : i = 0 ∨ i = 1 ∨ i = 2 ∨ i = 3) with rfl | rfl | rfl | rfl
      · rw [v0]; decide
      · rw [v1]; decide
      · rw [v2]; decide
      · rw [v3]; decide
    have el := lb_l_eq (f := f) (t := t) 4 p hl h3
    unfold lb_iw
    rw [el]
    refine ⟨by decide, by decide, ?_⟩
    obtain ⟨a, _⟩ := lb_pkn 4 (by decide) hl
    have e : lb_pn f p 4 = 1952541541 := by
      simp only [lb_pn, v0, v1, v2, v3]
      decide +kernel
    have e2 : lb_pk f p 4 = (1952541541 : Int64) := by
      apply Int64.toBitVec_inj.mp
      apply BitVec.eq_of_toNat_eq
      rw [a, e, hV]
    rw [e2]
    exact lg_cmp1
theorem lb_w_kind {f : Nat → Int32} {t p : Nat} : lb_iw f t p (1802071652 : Int64) ↔ lb_at f t (lb_W (nt_sp + 1 + 6)) p := by
  have hW : lb_W (nt_sp + 1 + 6) = [107, 105, 110, 100] := by decide +kernel
  have hV : (1802071652 : Int64).toBitVec.toNat = 1802071652 := by decide +kernel
  constructor
  · intro ⟨h0, h8, hc⟩
    obtain ⟨hl, hn⟩ := lb_l_let (f := f) (t := t) _ p rfl
    have e := lg_cmp0 hc
    obtain ⟨a, _⟩ := lb_pkn (lb_l f t p) (by omega) hl
    rw [e, hV] at a
    clear e hc
    generalize lb_l f t p = n at *
    rcases (by omega : n = 1 ∨ n = 2 ∨ n = 3 ∨ n = 4 ∨ n = 5 ∨ n = 6 ∨ n = 7) with rfl | rfl | rfl | rfl | rfl | rfl | rfl
    · have b0 := lb_let_b (hl 0 (by omega))
      simp only [lb_pn] at a
      omega
    · have b0 := lb_let_b (hl 0 (by omega))
      have b1 := lb_let_b (hl 1 (by omega))
      simp only [lb_pn] at a
      omega
    · have b0 := lb_let_b (hl 0 (by omega))
      have b1 := lb_let_b (hl 1 (by omega))
      have b2 := lb_let_b (hl 2 (by omega))
      simp only [lb_pn] at a
      omega
    · have b0 := lb_let_b (hl 0 (by omega))
      have b1 := lb_let_b (hl 1 (by omega))
      have b2 := lb_let_b (hl 2 (by omega))
      have b3 := lb_let_b (hl 3 (by omega))
      simp only [lb_pn] at a
      have v0 : (f (p + 0)).toInt = 107 := by omega
      have v1 : (f (p + 1)).toInt = 105 := by omega
      have v2 : (f (p + 2)).toInt = 110 := by omega
      have v3 : (f (p + 3)).toInt = 100 := by omega
      have hq := (hl 3 (by omega)).1
      rw [hW]
      refine ⟨by show p + 4 ≤ t; omega, fun i hi => ?_, hn⟩
      have hi : i < 4 := hi
      rcases (by omega : i = 0 ∨ i = 1 ∨ i = 2 ∨ i = 3) with rfl | rfl | rfl | rfl
      · exact Int32.toInt_inj.mp v0
      · exact Int32.toInt_inj.mp v1
      · exact Int32.toInt_inj.mp v2
      · exact Int32.toInt_inj.mp v3
    · have b0 := lb_let_b (hl 0 (by omega))
      have b1 := lb_let_b (hl 1 (by omega))
      have b2 := lb_let_b (hl 2 (by omega))
      have b3 := lb_let_b (hl 3 (by omega))
      have b4 := lb_let_b (hl 4 (by omega))
      simp only [lb_pn] at a
      omega
    · have b0 := lb_let_b (hl 0 (by omega))
      have b1 := lb_let_b (hl 1 (by omega))
      have b2 := lb_let_b (hl 2 (by omega))
      have b3 := lb_let_b (hl 3 (by omega))
      have b4 := lb_let_b (hl 4 (by omega))
      have b5 := lb_let_b (hl 5 (by omega))
      simp only [lb_pn] at a
      omega
    · have b0 := lb_let_b (hl 0 (by omega))
      have b1 := lb_let_b (hl 1 (by omega))
      have b2 := lb_let_b (hl 2 (by omega))
      have b3 := lb_let_b (hl 3 (by omega))
      have b4 := lb_let_b (hl 4 (by omega))
      have b5 := lb_let_b (hl 5 (by omega))
      have b6 := lb_let_b (hl 6 (by omega))
      simp only [lb_pn] at a
      omega
  · intro h
    rw [hW] at h
    obtain ⟨h1, h2, h3⟩ := h
    have h1 : p + 4 ≤ t := h1
    have v0 : f (p + 0) = 107 := h2 0 (by decide)
    have v1 : f (p + 1) = 105 := h2 1 (by decide)
    have v2 : f (p + 2) = 110 := h2 2 (by decide)
    have v3 : f (p + 3) = 100 := h2 3 (by decide)
    have hl : ∀ i, i < 4 → lb_let f t (p + i) := by
      intro i hi
      refine ⟨by omega, ?_⟩
      rcases (by omega : i = 0 ∨ i = 1 ∨ i = 2 ∨ i = 3) with rfl | rfl | rfl | rfl
      · rw [v0]; decide
      · rw [v1]; decide
      · rw [v2]; decide
      · rw [v3]; decide
    have el := lb_l_eq (f := f) (t := t) 4 p hl h3
    unfold lb_iw
    rw [el]
    refine ⟨by decide, by decide, ?_⟩
    obtain ⟨a, _⟩ := lb_pkn 4 (by decide) hl
    have e : lb_pn f p 4 = 1802071652 := by
      simp only [lb_pn, v0, v1, v2, v3]
      decide +kernel
    have e2 : lb_pk f p 4 = (1802071652 : Int64) := by
      apply Int64.toBitVec_inj.mp
      apply BitVec.eq_of_toNat_eq
      rw [a, e, hV]
    rw [e2]
    exact lg_cmp1
theorem lb_w_rot {f : Nat → Int32} {t p : Nat} : lb_iw f t p (7499636 : Int64) ↔ lb_at f t (lb_W (nt_sp + 1 + 7)) p := by
  have hW : lb_W (nt_sp + 1 + 7) = [114, 111, 116] := by decide +kernel
  have hV : (7499636 : Int64).toBitVec.toNat = 7499636 := by decide +kernel
  constructor
  · intro ⟨h0, h8, hc⟩
    obtain ⟨hl, hn⟩ := lb_l_let (f := f) (t := t) _ p rfl
    have e := lg_cmp0 hc
    obtain ⟨a, _⟩ := lb_pkn (lb_l f t p) (by omega) hl
    rw [e, hV] at a
    clear e hc
    generalize lb_l f t p = n at *
    rcases (by omega : n = 1 ∨ n = 2 ∨ n = 3 ∨ n = 4 ∨ n = 5 ∨ n = 6 ∨ n = 7) with rfl | rfl | rfl | rfl | rfl | rfl | rfl
    · have b0 := lb_let_b (hl 0 (by omega))
      simp only [lb_pn] at a
      omega
    · have b0 := lb_let_b (hl 0 (by omega))
      have b1 := lb_let_b (hl 1 (by omega))
      simp only [lb_pn] at a
      omega
    · have b0 := lb_let_b (hl 0 (by omega))
      have b1 := lb_let_b (hl 1 (by omega))
      have b2 := lb_let_b (hl 2 (by omega))
      simp only [lb_pn] at a
      have v0 : (f (p + 0)).toInt = 114 := by omega
      have v1 : (f (p + 1)).toInt = 111 := by omega
      have v2 : (f (p + 2)).toInt = 116 := by omega
      have hq := (hl 2 (by omega)).1
      rw [hW]
      refine ⟨by show p + 3 ≤ t; omega, fun i hi => ?_, hn⟩
      have hi : i < 3 := hi
      rcases (by omega : i = 0 ∨ i = 1 ∨ i = 2) with rfl | rfl | rfl
      · exact Int32.toInt_inj.mp v0
      · exact Int32.toInt_inj.mp v1
      · exact Int32.toInt_inj.mp v2
    · have b0 := lb_let_b (hl 0 (by omega))
      have b1 := lb_let_b (hl 1 (by omega))
      have b2 := lb_let_b (hl 2 (by omega))
      have b3 := lb_let_b (hl 3 (by omega))
      simp only [lb_pn] at a
      omega
    · have b0 := lb_let_b (hl 0 (by omega))
      have b1 := lb_let_b (hl 1 (by omega))
      have b2 := lb_let_b (hl 2 (by omega))
      have b3 := lb_let_b (hl 3 (by omega))
      have b4 := lb_let_b (hl 4 (by omega))
      simp only [lb_pn] at a
      omega
    · have b0 := lb_let_b (hl 0 (by omega))
      have b1 := lb_let_b (hl 1 (by omega))
      have b2 := lb_let_b (hl 2 (by omega))
      have b3 := lb_let_b (hl 3 (by omega))
      have b4 := lb_let_b (hl 4 (by omega))
      have b5 := lb_let_b (hl 5 (by omega))
      simp only [lb_pn] at a
      omega
    · have b0 := lb_let_b (hl 0 (by omega))
      have b1 := lb_let_b (hl 1 (by omega))
      have b2 := lb_let_b (hl 2 (by omega))
      have b3 := lb_let_b (hl 3 (by omega))
      have b4 := lb_let_b (hl 4 (by omega))
      have b5 := lb_let_b (hl 5 (by omega))
      have b6 := lb_let_b (hl 6 (by omega))
      simp only [lb_pn] at a
      omega
  · intro h
    rw [hW] at h
    obtain ⟨h1, h2, h3⟩ := h
    have h1 : p + 3 ≤ t := h1
    have v0 : f (p + 0) = 114 := h2 0 (by decide)
    have v1 : f (p + 1) = 111 := h2 1 (by decide)
    have v2 : f (p + 2) = 116 := h2 2 (by decide)
    have hl : ∀ i, i < 3 → lb_let f t (p + i) := by
      intro i hi
      refine ⟨by omega, ?_⟩
      rcases (by omega : i = 0 ∨ i = 1 ∨ i = 2) with rfl | rfl | rfl
      · rw [v0]; decide
      · rw [v1]; decide
      · rw [v2]; decide
    have el := lb_l_eq (f := f) (t := t) 3 p hl h3
    unfold lb_iw
    rw [el]
    refine ⟨by decide, by decide, ?_⟩
    obtain ⟨a, _⟩ := lb_pkn 3 (by decide) hl
    have e : lb_pn f p 3 = 7499636 := by
      simp only [lb_pn, v0, v1, v2]
      decide +kernel
    have e2 : lb_pk f p 3 = (7499636 : Int64) := by
      apply Int64.toBitVec_inj.mp
      apply BitVec.eq_of_toNat_eq
      rw [a, e, hV]
    rw [e2]
    exact lg_cmp1
theorem lb_w_owner {f : Nat → Int32} {t p : Nat} : lb_iw f t p (478745093490 : Int64) ↔ lb_at f t (lb_W (nt_sp + 1 + 8)) p := by
  have hW : lb_W (nt_sp + 1 + 8) = [111, 119, 110, 101, 114] := by decide +kernel
  have hV : (478745093490 : Int64).toBitVec.toNat = 478745093490 := by decide +kernel
  constructor
  · intro ⟨h0, h8, hc⟩
    obtain ⟨hl, hn⟩ := lb_l_let (f := f) (t := t) _ p rfl
    have e := lg_cmp0 hc
    obtain ⟨a, _⟩ := lb_pkn (lb_l f t p) (by omega) hl
    rw [e, hV] at a
    clear e hc
    generalize lb_l f t p = n at *
    rcases (by omega : n = 1 ∨ n = 2 ∨ n = 3 ∨ n = 4 ∨ n = 5 ∨ n = 6 ∨ n = 7) with rfl | rfl | rfl | rfl | rfl | rfl | rfl
    · have b0 := lb_let_b (hl 0 (by omega))
      simp only [lb_pn] at a
      omega
    · have b0 := lb_let_b (hl 0 (by omega))
      have b1 := lb_let_b (hl 1 (by omega))
      simp only [lb_pn] at a
      omega
    · have b0 := lb_let_b (hl 0 (by omega))
      have b1 := lb_let_b (hl 1 (by omega))
      have b2 := lb_let_b (hl 2 (by omega))
      simp only [lb_pn] at a
      omega
    · have b0 := lb_let_b (hl 0 (by omega))
      have b1 := lb_let_b (hl 1 (by omega))
      have b2 := lb_let_b (hl 2 (by omega))
      have b3 := lb_let_b (hl 3 (by omega))
      simp only [lb_pn] at a
      omega
    · have b0 := lb_let_b (hl 0 (by omega))
      have b1 := lb_let_b (hl 1 (by omega))
      have b2 := lb_let_b (hl 2 (by omega))
      have b3 := lb_let_b (hl 3 (by omega))
      have b4 := lb_let_b (hl 4 (by omega))
      simp only [lb_pn] at a
      have v0 : (f (p + 0)).toInt = 111 := by omega
      have v1 : (f (p + 1)).toInt = 119 := by omega
      have v2 : (f (p + 2)).toInt = 110 := by omega
      have v3 : (f (p + 3)).toInt = 101 := by omega
      have v4 : (f (p + 4)).toInt = 114 := by omega
      have hq := (hl 4 (by omega)).1
      rw [hW]
      refine ⟨by show p + 5 ≤ t; omega, fun i hi => ?_, hn⟩
      have hi : i < 5 := hi
      rcases (by omega : i = 0 ∨ i = 1 ∨ i = 2 ∨ i = 3 ∨ i = 4) with rfl | rfl | rfl | rfl | rfl
      · exact Int32.toInt_inj.mp v0
      · exact Int32.toInt_inj.mp v1
      · exact Int32.toInt_inj.mp v2
      · exact Int32.toInt_inj.mp v3
      · exact Int32.toInt_inj.mp v4
    · have b0 := lb_let_b (hl 0 (by omega))
      have b1 := lb_let_b (hl 1 (by omega))
      have b2 := lb_let_b (hl 2 (by omega))
      have b3 := lb_let_b (hl 3 (by omega))
      have b4 := lb_let_b (hl 4 (by omega))
      have b5 := lb_let_b (hl 5 (by omega))
      simp only [lb_pn] at a
      omega
    · have b0 := lb_let_b (hl 0 (by omega))
      have b1 := lb_let_b (hl 1 (by omega))
      have b2 := lb_let_b (hl 2 (by omega))
      have b3 := lb_let_b (hl 3 (by omega))
      have b4 := lb_let_b (hl 4 (by omega))
      have b5 := lb_let_b (hl 5 (by omega))
      have b6 := lb_let_b (hl 6 (by omega))
      simp only [lb_pn] at a
      omega
  · intro h
    rw [hW] at h
    obtain ⟨h1, h2, h3⟩ := h
    have h1 : p + 5 ≤ t := h1
    have v0 : f (p + 0) = 111 := h2 0 (by decide)
    have v1 : f (p + 1) = 119 := h2 1 (by decide)
    have v2 : f (p + 2) = 110 := h2 2 (by decide)
    have v3 : f (p + 3) = 101 := h2 3 (by decide)
    have v4 : f (p + 4) = 114 := h2 4 (by decide)
    have hl : ∀ i, i < 5 → lb_let f t (p + i) := by
      intro i hi
      refine ⟨by omega, ?_⟩
      rcases (by omega : i = 0 ∨ i = 1 ∨ i = 2 ∨ i = 3 ∨ i = 4) with rfl | rfl | rfl | rfl | rfl
      · rw [v0]; decide
      · rw [v1]; decide
      · rw [v2]; decide
      · rw [v3]; decide
      · rw [v4]; decide
    have el := lb_l_eq (f := f) (t := t) 5 p hl h3
    unfold lb_iw
    rw [el]
    refine ⟨by decide, by decide, ?_⟩
    obtain ⟨a, _⟩ := lb_pkn 5 (by decide) hl
    have e : lb_pn f p 5 = 478745093490 := by
      simp only [lb_pn, v0, v1, v2, v3, v4]
      decide +kernel
    have e2 : lb_pk f p 5 = (478745093490 : Int64) := by
      apply Int64.toBitVec_inj.mp
      apply BitVec.eq_of_toNat_eq
      rw [a, e, hV]
    rw [e2]
    exact lg_cmp1
theorem lb_w_from {f : Nat → Int32} {t p : Nat} : lb_iw f t p (1718775661 : Int64) ↔ lb_at f t (lb_W (nt_sp + 1 + 9)) p := by
  have hW : lb_W (nt_sp + 1 + 9) = [102, 114, 111, 109] := by decide +kernel
  have hV : (1718775661 : Int64).toBitVec.toNat = 1718775661 := by decide +kernel
  constructor
  · intro ⟨h0, h8, hc⟩
    obtain ⟨hl, hn⟩ := lb_l_let (f := f) (t := t) _ p rfl
    have e := lg_cmp0 hc
    obtain ⟨a, _⟩ := lb_pkn (lb_l f t p) (by omega) hl
    rw [e, hV] at a
    clear e hc
    generalize lb_l f t p = n at *
    rcases (by omega : n = 1 ∨ n = 2 ∨ n = 3 ∨ n = 4 ∨ n = 5 ∨ n = 6 ∨ n = 7) with rfl | rfl | rfl | rfl | rfl | rfl | rfl
    · have b0 := lb_let_b (hl 0 (by omega))
      simp only [lb_pn] at a
      omega
    · have b0 := lb_let_b (hl 0 (by omega))
      have b1 := lb_let_b (hl 1 (by omega))
      simp only [lb_pn] at a
      omega
    · have b0 := lb_let_b (hl 0 (by omega))
      have b1 := lb_let_b (hl 1 (by omega))
      have b2 := lb_let_b (hl 2 (by omega))
      simp only [lb_pn] at a
      omega
    · have b0 := lb_let_b (hl 0 (by omega))
      have b1 := lb_let_b (hl 1 (by omega))
      have b2 := lb_let_b (hl 2 (by omega))
      have b3 := lb_let_b (hl 3 (by omega))
      simp only [lb_pn] at a
      have v0 : (f (p + 0)).toInt = 102 := by omega
      have v1 : (f (p + 1)).toInt = 114 := by omega
      have v2 : (f (p + 2)).toInt = 111 := by omega
      have v3 : (f (p + 3)).toInt = 109 := by omega
      have hq := (hl 3 (by omega)).1
      rw [hW]
      refine ⟨by show p + 4 ≤ t; omega, fun i hi => ?_, hn⟩
      have hi : i < 4 := hi
      rcases (by omega : i = 0 ∨ i = 1 ∨ i = 2 ∨ i = 3) with rfl | rfl | rfl | rfl
      · exact Int32.toInt_inj.mp v0
      · exact Int32.toInt_inj.mp v1
      · exact Int32.toInt_inj.mp v2
      · exact Int32.toInt_inj.mp v3
    · have b0 := lb_let_b (hl 0 (by omega))
      have b1 := lb_let_b (hl 1 (by omega))
      have b2 := lb_let_b (hl 2 (by omega))
      have b3 := lb_let_b (hl 3 (by omega))
      have b4 := lb_let_b (hl 4 (by omega))
      simp only [lb_pn] at a
      omega
    · have b0 := lb_let_b (hl 0 (by omega))
      have b1 := lb_let_b (hl 1 (by omega))
      have b2 := lb_let_b (hl 2 (by omega))
      have b3 := lb_let_b (hl 3 (by omega))
      have b4 := lb_let_b (hl 4 (by omega))
      have b5 := lb_let_b (hl 5 (by omega))
      simp only [lb_pn] at a
      omega
    · have b0 := lb_let_b (hl 0 (by omega))
      have b1 := lb_let_b (hl 1 (by omega))
      have b2 := lb_let_b (hl 2 (by omega))
      have b3 := lb_let_b (hl 3 (by omega))
      have b4 := lb_let_b (hl 4 (by omega))
      have b5 := lb_let_b (hl 5 (by omega))
      have b6 := lb_let_b (hl 6 (by omega))
      simp only [lb_pn] at a
      omega
  · intro h
    rw [hW] at h
    obtain ⟨h1, h2, h3⟩ := h
    have h1 : p + 4 ≤ t := h1
    have v0 : f (p + 0) = 102 := h2 0 (by decide)
    have v1 : f (p + 1) = 114 := h2 1 (by decide)
    have v2 : f (p + 2) = 111 := h2 2 (by decide)
    have v3 : f (p + 3) = 109 := h2 3 (by decide)
    have hl : ∀ i, i < 4 → lb_let f t (p + i) := by
      intro i hi
      refine ⟨by omega, ?_⟩
      rcases (by omega : i = 0 ∨ i = 1 ∨ i = 2 ∨ i = 3) with rfl | rfl | rfl | rfl
      · rw [v0]; decide
      · rw [v1]; decide
      · rw [v2]; decide
      · rw [v3]; decide
    have el := lb_l_eq (f := f) (t := t) 4 p hl h3
    unfold lb_iw
    rw [el]
    refine ⟨by decide, by decide, ?_⟩
    obtain ⟨a, _⟩ := lb_pkn 4 (by decide) hl
    have e : lb_pn f p 4 = 1718775661 := by
      simp only [lb_pn, v0, v1, v2, v3]
      decide +kernel
    have e2 : lb_pk f p 4 = (1718775661 : Int64) := by
      apply Int64.toBitVec_inj.mp
      apply BitVec.eq_of_toNat_eq
      rw [a, e, hV]
    rw [e2]
    exact lg_cmp1
theorem lb_w_own {f : Nat → Int32} {t p : Nat} : lb_iw f t p (7305070 : Int64) ↔ lb_at f t (lb_W (nt_sp + 1 + 10)) p := by
  have hW : lb_W (nt_sp + 1 + 10) = [111, 119, 110] := by decide +kernel
  have hV : (7305070 : Int64).toBitVec.toNat = 7305070 := by decide +kernel
  constructor
  · intro ⟨h0, h8, hc⟩
    obtain ⟨hl, hn⟩ := lb_l_let (f := f) (t := t) _ p rfl
    have e := lg_cmp0 hc
    obtain ⟨a, _⟩ := lb_pkn (lb_l f t p) (by omega) hl
    rw [e, hV] at a
    clear e hc
    generalize lb_l f t p = n at *
    rcases (by omega : n = 1 ∨ n = 2 ∨ n = 3 ∨ n = 4 ∨ n = 5 ∨ n = 6 ∨ n = 7) with rfl | rfl | rfl | rfl | rfl | rfl | rfl
    · have b0 := lb_let_b (hl 0 (by omega))
      simp only [lb_pn] at a
      omega
    · have b0 := lb_let_b (hl 0 (by omega))
      have b1 := lb_let_b (hl 1 (by omega))
      simp only [lb_pn] at a
      omega
    · have b0 := lb_let_b (hl 0 (by omega))
      have b1 := lb_let_b (hl 1 (by omega))
      have b2 := lb_let_b (hl 2 (by omega))
      simp only [lb_pn] at a
      have v0 : (f (p + 0)).toInt = 111 := by omega
      have v1 : (f (p + 1)).toInt = 119 := by omega
      have v2 : (f (p + 2)).toInt = 110 := by omega
      have hq := (hl 2 (by omega)).1
      rw [hW]
      refine ⟨by show p + 3 ≤ t; omega, fun i hi => ?_, hn⟩
      have hi : i < 3 := hi
      rcases (by omega : i = 0 ∨ i = 1 ∨ i = 2) with rfl | rfl | rfl
      · exact Int32.toInt_inj.mp v0
      · exact Int32.toInt_inj.mp v1
      · exact Int32.toInt_inj.mp v2
    · have b0 := lb_let_b (hl 0 (by omega))
      have b1 := lb_let_b (hl 1 (by omega))
      have b2 := lb_let_b (hl 2 (by omega))
      have b3 := lb_let_b (hl 3 (by omega))
      simp only [lb_pn] at a
      omega
    · have b0 := lb_let_b (hl 0 (by omega))
      have b1 := lb_let_b (hl 1 (by omega))
      have b2 := lb_let_b (hl 2 (by omega))
      have b3 := lb_let_b (hl 3 (by omega))
      have b4 := lb_let_b (hl 4 (by omega))
      simp only [lb_pn] at a
      omega
    · have b0 := lb_let_b (hl 0 (by omega))
      have b1 := lb_let_b (hl 1 (by omega))
      have b2 := lb_let_b (hl 2 (by omega))
      have b3 := lb_let_b (hl 3 (by omega))
      have b4 := lb_let_b (hl 4 (by omega))
      have b5 := lb_let_b (hl 5 (by omega))
      simp only [lb_pn] at a
      omega
    · have b0 := lb_let_b (hl 0 (by omega))
      have b1 := lb_let_b (hl 1 (by omega))
      have b2 := lb_let_b (hl 2 (by omega))
      have b3 := lb_let_b (hl 3 (by omega))
      have b4 := lb_let_b (hl 4 (by omega))
      have b5 := lb_let_b (hl 5 (by omega))
      have b6 := lb_let_b (hl 6 (by omega))
      simp only [lb_pn] at a
      omega
  · intro h
    rw [hW] at h
    obtain ⟨h1, h2, h3⟩ := h
    have h1 : p + 3 ≤ t := h1
    have v0 : f (p + 0) = 111 := h2 0 (by decide)
    have v1 : f (p + 1) = 119 := h2 1 (by decide)
    have v2 : f (p + 2) = 110 := h2 2 (by decide)
    have hl : ∀ i, i < 3 → lb_let f t (p + i) := by
      intro i hi
      refine ⟨by omega, ?_⟩
      rcases (by omega : i = 0 ∨ i = 1 ∨ i = 2) with rfl | rfl | rfl
      · rw [v0]; decide
      · rw [v1]; decide
      · rw [v2]; decide
    have el := lb_l_eq (f := f) (t := t) 3 p hl h3
    unfold lb_iw
    rw [el]
    refine ⟨by decide, by decide, ?_⟩
    obtain ⟨a, _⟩ := lb_pkn 3 (by decide) hl
    have e : lb_pn f p 3 = 7305070 := by
      simp only [lb_pn, v0, v1, v2]
      decide +kernel
    have e2 : lb_pk f p 3 = (7305070 : Int64) := by
      apply Int64.toBitVec_inj.mp
      apply BitVec.eq_of_toNat_eq
      rw [a, e, hV]
    rw [e2]
    exact lg_cmp1
theorem lb_w_day {f : Nat → Int32} {t p : Nat} : lb_iw f t p (6578553 : Int64) ↔ lb_at f t (lb_W (nt_sp + 1 + 11)) p := by
  have hW : lb_W (nt_sp + 1 + 11) = [100, 97, 121] := by decide +kernel
  have hV : (6578553 : Int64).toBitVec.toNat = 6578553 := by decide +kernel
  constructor
  · intro ⟨h0, h8, hc⟩
    obtain ⟨hl, hn⟩ := lb_l_let (f := f) (t := t) _ p rfl
    have e := lg_cmp0 hc
    obtain ⟨a, _⟩ := lb_pkn (lb_l f t p) (by omega) hl
    rw [e, hV] at a
    clear e hc
    generalize lb_l f t p = n at *
    rcases (by omega : n = 1 ∨ n = 2 ∨ n = 3 ∨ n = 4 ∨ n = 5 ∨ n = 6 ∨ n = 7) with rfl | rfl | rfl | rfl | rfl | rfl | rfl
    · have b0 := lb_let_b (hl 0 (by omega))
      simp only [lb_pn] at a
      omega
    · have b0 := lb_let_b (hl 0 (by omega))
      have b1 := lb_let_b (hl 1 (by omega))
      simp only [lb_pn] at a
      omega
    · have b0 := lb_let_b (hl 0 (by omega))
      have b1 := lb_let_b (hl 1 (by omega))
      have b2 := lb_let_b (hl 2 (by omega))
      simp only [lb_pn] at a
      have v0 : (f (p + 0)).toInt = 100 := by omega
      have v1 : (f (p + 1)).toInt = 97 := by omega
      have v2 : (f (p + 2)).toInt = 121 := by omega
      have hq := (hl 2 (by omega)).1
      rw [hW]
      refine ⟨by show p + 3 ≤ t; omega, fun i hi => ?_, hn⟩
      have hi : i < 3 := hi
      rcases (by omega : i = 0 ∨ i = 1 ∨ i = 2) with rfl | rfl | rfl
      · exact Int32.toInt_inj.mp v0
      · exact Int32.toInt_inj.mp v1
      · exact Int32.toInt_inj.mp v2
    · have b0 := lb_let_b (hl 0 (by omega))
      have b1 := lb_let_b (hl 1 (by omega))
      have b2 := lb_let_b (hl 2 (by omega))
      have b3 := lb_let_b (hl 3 (by omega))
      simp only [lb_pn] at a
      omega
    · have b0 := lb_let_b (hl 0 (by omega))
      have b1 := lb_let_b (hl 1 (by omega))
      have b2 := lb_let_b (hl 2 (by omega))
      have b3 := lb_let_b (hl 3 (by omega))
      have b4 := lb_let_b (hl 4 (by omega))
      simp only [lb_pn] at a
      omega
    · have b0 := lb_let_b (hl 0 (by omega))
      have b1 := lb_let_b (hl 1 (by omega))
      have b2 := lb_let_b (hl 2 (by omega))
      have b3 := lb_let_b (hl 3 (by omega))
      have b4 := lb_let_b (hl 4 (by omega))
      have b5 := lb_let_b (hl 5 (by omega))
      simp only [lb_pn] at a
      omega
    · have b0 := lb_let_b (hl 0 (by omega))
      have b1 := lb_let_b (hl 1 (by omega))
      have b2 := lb_let_b (hl 2 (by omega))
      have b3 := lb_let_b (hl 3 (by omega))
      have b4 := lb_let_b (hl 4 (by omega))
      have b5 := lb_let_b (hl 5 (by omega))
      have b6 := lb_let_b (hl 6 (by omega))
      simp only [lb_pn] at a
      omega
  · intro h
    rw [hW] at h
    obtain ⟨h1, h2, h3⟩ := h
    have h1 : p + 3 ≤ t := h1
    have v0 : f (p + 0) = 100 := h2 0 (by decide)
    have v1 : f (p + 1) = 97 := h2 1 (by decide)
    have v2 : f (p + 2) = 121 := h2 2 (by decide)
    have hl : ∀ i, i < 3 → lb_let f t (p + i) := by
      intro i hi
      refine ⟨by omega, ?_⟩
      rcases (by omega : i = 0 ∨ i = 1 ∨ i = 2) with rfl | rfl | rfl
      · rw [v0]; decide
      · rw [v1]; decide
      · rw [v2]; decide
    have el := lb_l_eq (f := f) (t := t) 3 p hl h3
    unfold lb_iw
    rw [el]
    refine ⟨by decide, by decide, ?_⟩
    obtain ⟨a, _⟩ := lb_pkn 3 (by decide) hl
    have e : lb_pn f p 3 = 6578553 := by
      simp only [lb_pn, v0, v1, v2]
      decide +kernel
    have e2 : lb_pk f p 3 = (6578553 : Int64) := by
      apply Int64.toBitVec_inj.mp
      apply BitVec.eq_of_toNat_eq
      rw [a, e, hV]
    rw [e2]
    exact lg_cmp1
theorem lb_w_moves {f : Nat → Int32} {t p : Nat} : lb_iw f t p (470021465459 : Int64) ↔ lb_at f t (lb_W (nt_sp + 1 + 12)) p := by
  have hW : lb_W (nt_sp + 1 + 12) = [109, 111, 118, 101, 115] := by decide +kernel
  have hV : (470021465459 : Int64).toBitVec.toNat = 470021465459 := by decide +kernel
  constructor
  · intro ⟨h0, h8, hc⟩
    obtain ⟨hl, hn⟩ := lb_l_let (f := f) (t := t) _ p rfl
    have e := lg_cmp0 hc
    obtain ⟨a, _⟩ := lb_pkn (lb_l f t p) (by omega) hl
    rw [e, hV] at a
    clear e hc
    generalize lb_l f t p = n at *
    rcases (by omega : n = 1 ∨ n = 2 ∨ n = 3 ∨ n = 4 ∨ n = 5 ∨ n = 6 ∨ n = 7) with rfl | rfl | rfl | rfl | rfl | rfl | rfl
    · have b0 := lb_let_b (hl 0 (by omega))
      simp only [lb_pn] at a
      omega
    · have b0 := lb_let_b (hl 0 (by omega))
      have b1 := lb_let_b (hl 1 (by omega))
      simp only [lb_pn] at a
      omega
    · have b0 := lb_let_b (hl 0 (by omega))
      have b1 := lb_let_b (hl 1 (by omega))
      have b2 := lb_let_b (hl 2 (by omega))
      simp only [lb_pn] at a
      omega
    · have b0 := lb_let_b (hl 0 (by omega))
      have b1 := lb_let_b (hl 1 (by omega))
      have b2 := lb_let_b (hl 2 (by omega))
      have b3 := lb_let_b (hl 3 (by omega))
      simp only [lb_pn] at a
      omega
    · have b0 := lb_let_b (hl 0 (by omega))
      have b1 := lb_let_b (hl 1 (by omega))
      have b2 := lb_let_b (hl 2 (by omega))
      have b3 := lb_let_b (hl 3 (by omega))
      have b4 := lb_let_b (hl 4 (by omega))
      simp only [lb_pn] at a
      have v0 : (f (p + 0)).toInt = 109 := by omega
      have v1 : (f (p + 1)).toInt = 111 := by omega
      have v2 : (f (p + 2)).toInt = 118 := by omega
      have v3 : (f (p + 3)).toInt = 101 := by omega
      have v4 : (f (p + 4)).toInt = 115 := by omega
      have hq := (hl 4 (by omega)).1
      rw [hW]
      refine ⟨by show p + 5 ≤ t; omega, fun i hi => ?_, hn⟩
      have hi : i < 5 := hi
      rcases (by omega : i = 0 ∨ i = 1 ∨ i = 2 ∨ i = 3 ∨ i = 4) with rfl | rfl | rfl | rfl | rfl
      · exact Int32.toInt_inj.mp v0
      · exact Int32.toInt_inj.mp v1
      · exact Int32.toInt_inj.mp v2
      · exact Int32.toInt_inj.mp v3
      · exact Int32.toInt_inj.mp v4
    · have b0 := lb_let_b (hl 0 (by omega))
      have b1 := lb_let_b (hl 1 (by omega))
      have b2 := lb_let_b (hl 2 (by omega))
      have b3 := lb_let_b (hl 3 (by omega))
      have b4 := lb_let_b (hl 4 (by omega))
      have b5 := lb_let_b (hl 5 (by omega))
      simp only [lb_pn] at a
      omega
    · have b0 := lb_let_b (hl 0 (by omega))
      have b1 := lb_let_b (hl 1 (by omega))
      have b2 := lb_let_b (hl 2 (by omega))
      have b3 := lb_let_b (hl 3 (by omega))
      have b4 := lb_let_b (hl 4 (by omega))
      have b5 := lb_let_b (hl 5 (by omega))
      have b6 := lb_let_b (hl 6 (by omega))
      simp only [lb_pn] at a
      omega
  · intro h
    rw [hW] at h
    obtain ⟨h1, h2, h3⟩ := h
    have h1 : p + 5 ≤ t := h1
    have v0 : f (p + 0) = 109 := h2 0 (by decide)
    have v1 : f (p + 1) = 111 := h2 1 (by decide)
    have v2 : f (p + 2) = 118 := h2 2 (by decide)
    have v3 : f (p + 3) = 101 := h2 3 (by decide)
    have v4 : f (p + 4) = 115 := h2 4 (by decide)
    have hl : ∀ i, i < 5 → lb_let f t (p + i) := by
      intro i hi
      refine ⟨by omega, ?_⟩
      rcases (by omega : i = 0 ∨ i = 1 ∨ i = 2 ∨ i = 3 ∨ i = 4) with rfl | rfl | rfl | rfl | rfl
      · rw [v0]; decide
      · rw [v1]; decide
      · rw [v2]; decide
      · rw [v3]; decide
      · rw [v4]; decide
    have el := lb_l_eq (f := f) (t := t) 5 p hl h3
    unfold lb_iw
    rw [el]
    refine ⟨by decide, by decide, ?_⟩
    obtain ⟨a, _⟩ := lb_pkn 5 (by decide) hl
    have e : lb_pn f p 5 = 470021465459 := by
      simp only [lb_pn, v0, v1, v2, v3, v4]
      decide +kernel
    have e2 : lb_pk f p 5 = (470021465459 : Int64) := by
      apply Int64.toBitVec_inj.mp
      apply BitVec.eq_of_toNat_eq
      rw [a, e, hV]
    rw [e2]
    exact lg_cmp1
theorem lb_w_length {f : Nat → Int32} {t p : Nat} : lb_iw f t p (119182899770472 : Int64) ↔ lb_at f t (lb_W (nt_sp + 1 + 13)) p := by
  have hW : lb_W (nt_sp + 1 + 13) = [108, 101, 110, 103, 116, 104] := by decide +kernel
  have hV : (119182899770472 : Int64).toBitVec.toNat = 119182899770472 := by decide +kernel
  constructor
  · intro ⟨h0, h8, hc⟩
    obtain ⟨hl, hn⟩ := lb_l_let (f := f) (t := t) _ p rfl
    have e := lg_cmp0 hc
    obtain ⟨a, _⟩ := lb_pkn (lb_l f t p) (by omega) hl
    rw [e, hV] at a
    clear e hc
    generalize lb_l f t p = n at *
    rcases (by omega : n = 1 ∨ n = 2 ∨ n = 3 ∨ n = 4 ∨ n = 5 ∨ n = 6 ∨ n = 7) with rfl | rfl | rfl | rfl | rfl | rfl | rfl
    · have b0 := lb_let_b (hl 0 (by omega))
      simp only [lb_pn] at a
      omega
    · have b0 := lb_let_b (hl 0 (by omega))
      have b1 := lb_let_b (hl 1 (by omega))
      simp only [lb_pn] at a
      omega
    · have b0 := lb_let_b (hl 0 (by omega))
      have b1 := lb_let_b (hl 1 (by omega))
      have b2 := lb_let_b (hl 2 (by omega))
      simp only [lb_pn] at a
      omega
    · have b0 := lb_let_b (hl 0 (by omega))
      have b1 := lb_let_b (hl 1 (by omega))
      have b2 := lb_let_b (hl 2 (by omega))
      have b3 := lb_let_b (hl 3 (by omega))
      simp only [lb_pn] at a
      omega
    · have b0 := lb_let_b (hl 0 (by omega))
      have b1 := lb_let_b (hl 1 (by omega))
      have b2 := lb_let_b (hl 2 (by omega))
      have b3 := lb_let_b (hl 3 (by omega))
      have b4 := lb_let_b (hl 4 (by omega))
      simp only [lb_pn] at a
      omega
    · have b0 := lb_let_b (hl 0 (by omega))
      have b1 := lb_let_b (hl 1 (by omega))
      have b2 := lb_let_b (hl 2 (by omega))
      have b3 := lb_let_b (hl 3 (by omega))
      have b4 := lb_let_b (hl 4 (by omega))
      have b5 := lb_let_b (hl 5 (by omega))
      simp only [lb_pn] at a
      have v0 : (f (p + 0)).toInt = 108 := by omega
      have v1 : (f (p + 1)).toInt = 101 := by omega
      have v2 : (f (p + 2)).toInt = 110 := by omega
      have v3 : (f (p + 3)).toInt = 103 := by omega
      have v4 : (f (p + 4)).toInt = 116 := by omega
      have v5 : (f (p + 5)).toInt = 104 := by omega
      have hq := (hl 5 (by omega)).1
      rw [hW]
      refine ⟨by show p + 6 ≤ t; omega, fun i hi => ?_, hn⟩
      have hi : i < 6 := hi
      rcases (by omega : i = 0 ∨ i = 1 ∨ i = 2 ∨ i = 3 ∨ i = 4 ∨ i = 5) with rfl | rfl | rfl | rfl | rfl | rfl
      · exact Int32.toInt_inj.mp v0
      · exact Int32.toInt_inj.mp v1
      · exact Int32.toInt_inj.mp v2
      · exact Int32.toInt_inj.mp v3
      · exact Int32.toInt_inj.mp v4
      · exact Int32.toInt_inj.mp v5
    · have b0 := lb_let_b (hl 0 (by omega))
      have b1 := lb_let_b (hl 1 (by omega))
      have b2 := lb_let_b (hl 2 (by omega))
      have b3 := lb_let_b (hl 3 (by omega))
      have b4 := lb_let_b (hl 4 (by omega))
      have b5 := lb_let_b (hl 5 (by omega))
      have b6 := lb_let_b (hl 6 (by omega))
      simp only [lb_pn] at a
      omega
  · intro h
    rw [hW] at h
    obtain ⟨h1, h2, h3⟩ := h
    have h1 : p + 6 ≤ t := h1
    have v0 : f (p + 0) = 108 := h2 0 (by decide)
    have v1 : f (p + 1) = 101 := h2 1 (by decide)
    have v2 : f (p + 2) = 110 := h2 2 (by decide)
    have v3 : f (p + 3) = 103 := h2 3 (by decide)
    have v4 : f (p + 4) = 116 := h2 4 (by decide)
    have v5 : f (p + 5) = 104 := h2 5 (by decide)
    have hl : ∀ i, i < 6 → lb_let f t (p + i) := by
      intro i hi
      refine ⟨by omega, ?_⟩
      rcases (by omega : i = 0 ∨ i = 1 ∨ i = 2 ∨ i = 3 ∨ i = 4 ∨ i = 5) with rfl | rfl | rfl | rfl | rfl | rfl
      · rw [v0]; decide
      · rw [v1]; decide
      · rw [v2]; decide
      · rw [v3]; decide
      · rw [v4]; decide
      · rw [v5]; decide
    have el := lb_l_eq (f := f) (t := t) 6 p hl h3
    unfold lb_iw
    rw [el]
    refine ⟨by decide, by decide, ?_⟩
    obtain ⟨a, _⟩ := lb_pkn 6 (by decide) hl
    have e : lb_pn f p 6 = 119182899770472 := by
      simp only [lb_pn, v0, v1, v2, v3, v4, v5]
      decide +kernel
    have e2 : lb_pk f p 6 = (119182899770472 : Int64) := by
      apply Int64.toBitVec_inj.mp
      apply BitVec.eq_of_toNat_eq
      rw [a, e, hV]
    rw [e2]
    exact lg_cmp1
theorem lb_w_if {f : Nat → Int32} {t p : Nat} : lb_iw f t p (26982 : Int64) ↔ lb_at f t (lb_W (nt_sp + 1 + 14)) p := by
  have hW : lb_W (nt_sp + 1 + 14) = [105, 102] := by decide +kernel
  have hV : (26982 : Int64).toBitVec.toNat = 26982 := by decide +kernel
  constructor
  · intro ⟨h0, h8, hc⟩
    obtain ⟨hl, hn⟩ := lb_l_let (f := f) (t := t) _ p rfl
    have e := lg_cmp0 hc
    obtain ⟨a, _⟩ := lb_pkn (lb_l f t p) (by omega) hl
    rw [e, hV] at a
    clear e hc
    generalize lb_l f t p = n at *
    rcases (by omega : n = 1 ∨ n = 2 ∨ n = 3 ∨ n = 4 ∨ n = 5 ∨ n = 6 ∨ n = 7) with rfl | rfl | rfl | rfl | rfl | rfl | rfl
    · have b0 := lb_let_b (hl 0 (by omega))
      simp only [lb_pn] at a
      omega
    · have b0 := lb_let_b (hl 0 (by omega))
      have b1 := lb_let_b (hl 1 (by omega))
      simp only [lb_pn] at a
      have v0 : (f (p + 0)).toInt = 105 := by omega
      have v1 : (f (p + 1)).toInt = 102 := by omega
      have hq := (hl 1 (by omega)).1
      rw [hW]
      refine ⟨by show p + 2 ≤ t; omega, fun i hi => ?_, hn⟩
      have hi : i < 2 := hi
      rcases (by omega : i = 0 ∨ i = 1) with rfl | rfl
      · exact Int32.toInt_inj.mp v0
      · exact Int32.toInt_inj.mp v1
    · have b0 := lb_let_b (hl 0 (by omega))
      have b1 := lb_let_b (hl 1 (by omega))
      have b2 := lb_let_b (hl 2 (by omega))
      simp only [lb_pn] at a
      omega
    · have b0 := lb_let_b (hl 0 (by omega))
      have b1 := lb_let_b (hl 1 (by omega))
      have b2 := lb_let_b (hl 2 (by omega))
      have b3 := lb_let_b (hl 3 (by omega))
      simp only [lb_pn] at a
      omega
    · have b0 := lb_let_b (hl 0 (by omega))
      have b1 := lb_let_b (hl 1 (by omega))
      have b2 := lb_let_b (hl 2 (by omega))
      have b3 := lb_let_b (hl 3 (by omega))
      have b4 := lb_let_b (hl 4 (by omega))
      simp only [lb_pn] at a
      omega
    · have b0 := lb_let_b (hl 0 (by omega))
      have b1 := lb_let_b (hl 1 (by omega))
      have b2 := lb_let_b (hl 2 (by omega))
      have b3 := lb_let_b (hl 3 (by omega))
      have b4 := lb_let_b (hl 4 (by omega))
      have b5 := lb_let_b (hl 5 (by omega))
      simp only [lb_pn] at a
      omega
    · have b0 := lb_let_b (hl 0 (by omega))
      have b1 := lb_let_b (hl 1 (by omega))
      have b2 := lb_let_b (hl 2 (by omega))
      have b3 := lb_let_b (hl 3 (by omega))
      have b4 := lb_let_b (hl 4 (by omega))
      have b5 := lb_let_b (hl 5 (by omega))
      have b6 := lb_let_b (hl 6 (by omega))
      simp only [lb_pn] at a
      omega
  · intro h
    rw [hW] at h
    obtain ⟨h1, h2, h3⟩ := h
    have h1 : p + 2 ≤ t := h1
    have v0 : f (p + 0) = 105 := h2 0 (by decide)
    have v1 : f (p + 1) = 102 := h2 1 (by decide)
    have hl : ∀ i, i < 2 → lb_let f t (p + i) := by
      intro i hi
      refine ⟨by omega, ?_⟩
      rcases (by omega : i = 0 ∨ i = 1) with rfl | rfl
      · rw [v0]; decide
      · rw [v1]; decide
    have el := lb_l_eq (f := f) (t := t) 2 p hl h3
    unfold lb_iw
    rw [el]
    refine ⟨by decide, by decide, ?_⟩
    obtain ⟨a, _⟩ := lb_pkn 2 (by decide) hl
    have e : lb_pn f p 2 = 26982 := by
      simp only [lb_pn, v0, v1]
      decide +kernel
    have e2 : lb_pk f p 2 = (26982 : Int64) := by
      apply Int64.toBitVec_inj.mp
      apply BitVec.eq_of_toNat_eq
      rw [a, e, hV]
    rw [e2]
    exact lg_cmp1
theorem lb_w_not {f : Nat → Int32} {t p : Nat} : lb_iw f t p (7237492 : Int64) ↔ lb_at f t (lb_W (nt_sp + 1 + 15)) p := by
  have hW : lb_W (nt_sp + 1 + 15) = [110, 111, 116] := by decide +kernel
  have hV : (7237492 : Int64).toBitVec.toNat = 7237492 := by decide +kernel
  constructor
  · intro ⟨h0, h8, hc⟩
    obtain ⟨hl, hn⟩ := lb_l_let (f := f) (t := t) _ p rfl
    have e := lg_cmp0 hc
    obtain ⟨a, _⟩ := lb_pkn (lb_l f t p) (by omega) hl
    rw [e, hV] at a
    clear e hc
    generalize lb_l f t p = n at *
    rcases (by omega : n = 1 ∨ n = 2 ∨ n = 3 ∨ n = 4 ∨ n = 5 ∨ n = 6 ∨ n = 7) with rfl | rfl | rfl | rfl | rfl | rfl | rfl
    · have b0 := lb_let_b (hl 0 (by omega))
      simp only [lb_pn] at a
      omega
    · have b0 := lb_let_b (hl 0 (by omega))
      have b1 := lb_let_b (hl 1 (by omega))
      simp only [lb_pn] at a
      omega
    · have b0 := lb_let_b (hl 0 (by omega))
      have b1 := lb_let_b (hl 1 (by omega))
      have b2 := lb_let_b (hl 2 (by omega))
      simp only [lb_pn] at a
      have v0 : (f (p + 0)).toInt = 110 := by omega
      have v1 : (f (p + 1)).toInt = 111 := by omega
      have v2 : (f (p + 2)).toInt = 116 := by omega
      have hq := (hl 2 (by omega)).1
      rw [hW]
      refine ⟨by show p + 3 ≤ t; omega, fun i hi => ?_, hn⟩
      have hi : i < 3 := hi
      rcases (by omega : i = 0 ∨ i = 1 ∨ i = 2) with rfl | rfl | rfl
      · exact Int32.toInt_inj.mp v0
      · exact Int32.toInt_inj.mp v1
      · exact Int32.toInt_inj.mp v2
    · have b0 := lb_let_b (hl 0 (by omega))
      have b1 := lb_let_b (hl 1 (by omega))
      have b2 := lb_let_b (hl 2 (by omega))
      have b3 := lb_let_b (hl 3 (by omega))
      simp only [lb_pn] at a
      omega
    · have b0 := lb_let_b (hl 0 (by omega))
      have b1 := lb_let_b (hl 1 (by omega))
      have b2 := lb_let_b (hl 2 (by omega))
      have b3 := lb_let_b (hl 3 (by omega))
      have b4 := lb_let_b (hl 4 (by omega))
      simp only [lb_pn] at a
      omega
    · have b0 := lb_let_b (hl 0 (by omega))
      have b1 := lb_let_b (hl 1 (by omega))
      have b2 := lb_let_b (hl 2 (by omega))
      have b3 := lb_let_b (hl 3 (by omega))
      have b4 := lb_let_b (hl 4 (by omega))
      have b5 := lb_let_b (hl 5 (by omega))
      simp only [lb_pn] at a
      omega
    · have b0 := lb_let_b (hl 0 (by omega))
      have b1 := lb_let_b (hl 1 (by omega))
      have b2 := lb_let_b (hl 2 (by omega))
      have b3 := lb_let_b (hl 3 (by omega))
      have b4 := lb_let_b (hl 4 (by omega))
      have b5 := lb_let_b (hl 5 (by omega))
      have b6 := lb_let_b (hl 6 (by omega))
      simp only [lb_pn] at a
      omega
  · intro h
    rw [hW] at h
    obtain ⟨h1, h2, h3⟩ := h
    have h1 : p + 3 ≤ t := h1
    have v0 : f (p + 0) = 110 := h2 0 (by decide)
    have v1 : f (p + 1) = 111 := h2 1 (by decide)
    have v2 : f (p + 2) = 116 := h2 2 (by decide)
    have hl : ∀ i, i < 3 → lb_let f t (p + i) := by
      intro i hi
      refine ⟨by omega, ?_⟩
      rcases (by omega : i = 0 ∨ i = 1 ∨ i = 2) with rfl | rfl | rfl
      · rw [v0]; decide
      · rw [v1]; decide
      · rw [v2]; decide
    have el := lb_l_eq (f := f) (t := t) 3 p hl h3
    unfold lb_iw
    rw [el]
    refine ⟨by decide, by decide, ?_⟩
    obtain ⟨a, _⟩ := lb_pkn 3 (by decide) hl
    have e : lb_pn f p 3 = 7237492 := by
      simp only [lb_pn, v0, v1, v2]
      decide +kernel
    have e2 : lb_pk f p 3 = (7237492 : Int64) := by
      apply Int64.toBitVec_inj.mp
      apply BitVec.eq_of_toNat_eq
      rw [a, e, hV]
    rw [e2]
    exact lg_cmp1
theorem lb_w_and {f : Nat → Int32} {t p : Nat} : lb_iw f t p (6385252 : Int64) ↔ lb_at f t (lb_W (nt_sp + 1 + 16)) p := by
  have hW : lb_W (nt_sp + 1 + 16) = [97, 110, 100] := by decide +kernel
  have hV : (6385252 : Int64).toBitVec.toNat = 6385252 := by decide +kernel
  constructor
  · intro ⟨h0, h8, hc⟩
    obtain ⟨hl, hn⟩ := lb_l_let (f := f) (t := t) _ p rfl
    have e := lg_cmp0 hc
    obtain ⟨a, _⟩ := lb_pkn (lb_l f t p) (by omega) hl
    rw [e, hV] at a
    clear e hc
    generalize lb_l f t p = n at *
    rcases (by omega : n = 1 ∨ n = 2 ∨ n = 3 ∨ n = 4 ∨ n = 5 ∨ n = 6 ∨ n = 7) with rfl | rfl | rfl | rfl | rfl | rfl | rfl
    · have b0 := lb_let_b (hl 0 (by omega))
      simp only [lb_pn] at a
      omega
    · have b0 := lb_let_b (hl 0 (by omega))
      have b1 := lb_let_b (hl 1 (by omega))
      simp only [lb_pn] at a
      omega
    · have b0 := lb_let_b (hl 0 (by omega))
      have b1 := lb_let_b (hl 1 (by omega))
      have b2 := lb_let_b (hl 2 (by omega))
      simp only [lb_pn] at a
      have v0 : (f (p + 0)).toInt = 97 := by omega
      have v1 : (f (p + 1)).toInt = 110 := by omega
      have v2 : (f (p + 2)).toInt = 100 := by omega
      have hq := (hl 2 (by omega)).1
      rw [hW]
      refine ⟨by show p + 3 ≤ t; omega, fun i hi => ?_, hn⟩
      have hi : i < 3 := hi
      rcases (by omega : i = 0 ∨ i = 1 ∨ i = 2) with rfl | rfl | rfl
      · exact Int32.toInt_inj.mp v0
      · exact Int32.toInt_inj.mp v1
      · exact Int32.toInt_inj.mp v2
    · have b0 := lb_let_b (hl 0 (by omega))
      have b1 := lb_let_b (hl 1 (by omega))
      have b2 := lb_let_b (hl 2 (by omega))
      have b3 := lb_let_b (hl 3 (by omega))
      simp only [lb_pn] at a
      omega
    · have b0 := lb_let_b (hl 0 (by omega))
      have b1 := lb_let_b (hl 1 (by omega))
      have b2 := lb_let_b (hl 2 (by omega))
      have b3 := lb_let_b (hl 3 (by omega))
      have b4 := lb_let_b (hl 4 (by omega))
      simp only [lb_pn] at a
      omega
    · have b0 := lb_let_b (hl 0 (by omega))
      have b1 := lb_let_b (hl 1 (by omega))
      have b2 := lb_let_b (hl 2 (by omega))
      have b3 := lb_let_b (hl 3 (by omega))
      have b4 := lb_let_b (hl 4 (by omega))
      have b5 := lb_let_b (hl 5 (by omega))
      simp only [lb_pn] at a
      omega
    · have b0 := lb_let_b (hl 0 (by omega))
      have b1 := lb_let_b (hl 1 (by omega))
      have b2 := lb_let_b (hl 2 (by omega))
      have b3 := lb_let_b (hl 3 (by omega))
      have b4 := lb_let_b (hl 4 (by omega))
      have b5 := lb_let_b (hl 5 (by omega))
      have b6 := lb_let_b (hl 6 (by omega))
      simp only [lb_pn] at a
      omega
  · intro h
    rw [hW] at h
    obtain ⟨h1, h2, h3⟩ := h
    have h1 : p + 3 ≤ t := h1
    have v0 : f (p + 0) = 97 := h2 0 (by decide)
    have v1 : f (p + 1) = 110 := h2 1 (by decide)
    have v2 : f (p + 2) = 100 := h2 2 (by decide)
    have hl : ∀ i, i < 3 → lb_let f t (p + i) := by
      intro i hi
      refine ⟨by omega, ?_⟩
      rcases (by omega : i = 0 ∨ i = 1 ∨ i = 2) with rfl | rfl | rfl
      · rw [v0]; decide
      · rw [v1]; decide
      · rw [v2]; decide
    have el := lb_l_eq (f := f) (t := t) 3 p hl h3
    unfold lb_iw
    rw [el]
    refine ⟨by decide, by decide, ?_⟩
    obtain ⟨a, _⟩ := lb_pkn 3 (by decide) hl
    have e : lb_pn f p 3 = 6385252 := by
      simp only [lb_pn, v0, v1, v2]
      decide +kernel
    have e2 : lb_pk f p 3 = (6385252 : Int64) := by
      apply Int64.toBitVec_inj.mp
      apply BitVec.eq_of_toNat_eq
      rw [a, e, hV]
    rw [e2]
    exact lg_cmp1
theorem lb_w_or {f : Nat → Int32} {t p : Nat} : lb_iw f t p (28530 : Int64) ↔ lb_at f t (lb_W (nt_sp + 1 + 17)) p := by
  have hW : lb_W (nt_sp + 1 + 17) = [111, 114] := by decide +kernel
  have hV : (28530 : Int64).toBitVec.toNat = 28530 := by decide +kernel
  constructor
  · intro ⟨h0, h8, hc⟩
    obtain ⟨hl, hn⟩ := lb_l_let (f := f) (t := t) _ p rfl
    have e := lg_cmp0 hc
    obtain ⟨a, _⟩ := lb_pkn (lb_l f t p) (by omega) hl
    rw [e, hV] at a
    clear e hc
    generalize lb_l f t p = n at *
    rcases (by omega : n = 1 ∨ n = 2 ∨ n = 3 ∨ n = 4 ∨ n = 5 ∨ n = 6 ∨ n = 7) with rfl | rfl | rfl | rfl | rfl | rfl | rfl
    · have b0 := lb_let_b (hl 0 (by omega))
      simp only [lb_pn] at a
      omega
    · have b0 := lb_let_b (hl 0 (by omega))
      have b1 := lb_let_b (hl 1 (by omega))
      simp only [lb_pn] at a
      have v0 : (f (p + 0)).toInt = 111 := by omega
      have v1 : (f (p + 1)).toInt = 114 := by omega
      have hq := (hl 1 (by omega)).1
      rw [hW]
      refine ⟨by show p + 2 ≤ t; omega, fun i hi => ?_, hn⟩
      have hi : i < 2 := hi
      rcases (by omega : i = 0 ∨ i = 1) with rfl | rfl
      · exact Int32.toInt_inj.mp v0
      · exact Int32.toInt_inj.mp v1
    · have b0 := lb_let_b (hl 0 (by omega))
      have b1 := lb_let_b (hl 1 (by omega))
      have b2 := lb_let_b (hl 2 (by omega))
      simp only [lb_pn] at a
      omega
    · have b0 := lb_let_b (hl 0 (by omega))
      have b1 := lb_let_b (hl 1 (by omega))
      have b2 := lb_let_b (hl 2 (by omega))
      have b3 := lb_let_b (hl 3 (by omega))
      simp only [lb_pn] at a
      omega
    · have b0 := lb_let_b (hl 0 (by omega))
      have b1 := lb_let_b (hl 1 (by omega))
      have b2 := lb_let_b (hl 2 (by omega))
      have b3 := lb_let_b (hl 3 (by omega))
      have b4 := lb_let_b (hl 4 (by omega))
      simp only [lb_pn] at a
      omega
    · have b0 := lb_let_b (hl 0 (by omega))
      have b1 := lb_let_b (hl 1 (by omega))
      have b2 := lb_let_b (hl 2 (by omega))
      have b3 := lb_let_b (hl 3 (by omega))
      have b4 := lb_let_b (hl 4 (by omega))
      have b5 := lb_let_b (hl 5 (by omega))
      simp only [lb_pn] at a
      omega
    · have b0 := lb_let_b (hl 0 (by omega))
      have b1 := lb_let_b (hl 1 (by omega))
      have b2 := lb_let_b (hl 2 (by omega))
      have b3 := lb_let_b (hl 3 (by omega))
      have b4 := lb_let_b (hl 4 (by omega))
      have b5 := lb_let_b (hl 5 (by omega))
      have b6 := lb_let_b (hl 6 (by omega))
      simp only [lb_pn] at a
      omega
  · intro h
    rw [hW] at h
    obtain ⟨h1, h2, h3⟩ := h
    have h1 : p + 2 ≤ t := h1
    have v0 : f (p + 0) = 111 := h2 0 (by decide)
    have v1 : f (p + 1) = 114 := h2 1 (by decide)
    have hl : ∀ i, i < 2 → lb_let f t (p + i) := by
      intro i hi
      refine ⟨by omega, ?_⟩
      rcases (by omega : i = 0 ∨ i = 1) with rfl | rfl
      · rw [v0]; decide
      · rw [v1]; decide
    have el := lb_l_eq (f := f) (t := t) 2 p hl h3
    unfold lb_iw
    rw [el]
    refine ⟨by decide, by decide, ?_⟩
    obtain ⟨a, _⟩ := lb_pkn 2 (by decide) hl
    have e : lb_pn f p 2 = 28530 := by
      simp only [lb_pn, v0, v1]
      decide +kernel
    have e2 : lb_pk f p 2 = (28530 : Int64) := by
      apply Int64.toBitVec_inj.mp
      apply BitVec.eq_of_toNat_eq
      rw [a, e, hV]
    rw [e2]
    exact lg_cmp1
end
section
/-! digits and the words of a value -/
def lb_dig (f : Nat → Int32) (t k : Nat) : Prop := k < t ∧ Int32.ofInt 48 ≤ f k ∧ f k ≤ Int32.ofInt 57
theorem md_isDigit {X : nt_X} {d t x B Tb Sg Ln q m : Nat} {f : Nat → Int32} {M : nt_M} {J0 J : Nat → Nat → Int32} {o : Option Value × nt_M} {wr : Int32} {e : Nat × (Nat → Int32)} {y : Nat} (hP : md_P M J0 f t x B Tb Sg Ln) (hS : md_S J0 B Sg Ln x q wr m e J) (hp : q ≤ t) (hy : y ≤ 1000) (k : nt_ev X d 144 [.ref B, .int (nI y)] (me_w M J) o) : ∃ r, o = (some (.int r), me_w M J) ∧ (r = Int32.ofInt 1 ∧ lb_dig f t y ∨ r = Int32.ofInt 0 ∧ ¬ lb_dig f t y) := by
  have k : nt_rn X d 144 (0, [(0, .ref B), (1, .int (nI y))], [], me_w M J) o := k
  have t4 : t ≤ 400 := hP.2.2.2.2.2.1
  have k := ly_revb 2 (c' := (2, [(0, .ref B), (1, .int (nI y))], [.ref B, .int (nI y)], me_w M J)) rfl k
  have k := lz_get (a := B) (g := 1101) (M := me_w M J) (v := .int (nI t)) rfl (congrArg Value.int (md_t hP hS)) k
  have k := ly_revb 1 (c' := (if (nI t) ≤ (nI y) then 34 else 8, [(0, .ref B), (1, .int (nI y))], [], me_w M J)) rfl k
  by_cases h5 : t ≤ y
  · rw [if_pos (show (nI t) ≤ (nI y) from show nI t ≤ nI y from nI_le h5 (by omega))] at k
    have k := ly_revb 1 (c' := (35, [(0, .ref B), (1, .int (nI y))], [.int (Int32.ofInt 0)], me_w M J)) rfl k
    have k := lz_ri rfl (by decide) k
    exact ⟨_, k, Or.inr ⟨rfl, fun c => absurd c.1 (by omega)⟩⟩
  · rw [if_neg (show ¬ ((nI t) ≤ (nI y)) from show ¬ nI t ≤ nI y from nI_ge (Nat.not_le.mp h5) (by omega))] at k
    have k := ly_revb 1 (c' := (9, [(0, .ref B), (1, .int (nI y))], [.ref B], me_w M J)) rfl k
    have k := lz_get (a := B) (g := 1100) (M := me_w M J) (v := .ref Tb) rfl (nt_gfR rfl hP.1.1) k
    have k := ly_revb 1 (c' := (13, [(0, .ref B), (1, .int (nI y))], [.int (nI y), .ref Tb], me_w M J)) rfl k
    have k := me_bald (q := y) (v := f y) rfl (rfl) (by omega) (md_f hP hS y) k
    have k := ly_revb 2 (c' := (if (f y) < (Int32.ofInt 48) then 34 else 19, [(0, .ref B), (1, .int (nI y))], [], me_w M J)) rfl k
    by_cases h16 : (f y) < (Int32.ofInt 48)
    · rw [if_pos (show (f y) < (Int32.ofInt 48) from h16)] at k
      have k := ly_revb 1 (c' := (35, [(0, .ref B), (1, .int (nI y))], [.int (Int32.ofInt 0)], me_w M J)) rfl k
      have k := lz_ri rfl (by decide) k
      exact ⟨_, k, Or.inr ⟨rfl, fun c => absurd c.2.1 (me_nle h16)⟩⟩
    · rw [if_neg (show ¬ ((f y) < (Int32.ofInt 48)) from h16)] at k
      have k := ly_revb 1 (c' := (20, [(0, .ref B), (1, .int (nI y))], [.ref B], me_w M J)) rfl k
      have k := lz_get (a := B) (g := 1100) (M := me_w M J) (v := .ref Tb) rfl (nt_gfR rfl hP.1.1) k
      have k := ly_revb 1 (c' := (24, [(0, .ref B), (1, .int (nI y))], [.int (nI y), .ref Tb], me_w M J)) rfl k
      have k := me_bald (q := y) (v := f y) rfl (rfl) (by omega) (md_f hP hS y) k
      have k := ly_revb 2 (c' := (if (Int32.ofInt 57) < (f y) then 34 else 30, [(0, .ref B), (1, .int (nI y))], [], me_w M J)) rfl k
      by_cases h27 : (Int32.ofInt 57) < (f y)
      · rw [if_pos (show (Int32.ofInt 57) < (f y) from h27)] at k
        have k := ly_revb 1 (c' := (35, [(0, .ref B), (1, .int (nI y))], [.int (Int32.ofInt 0)], me_w M J)) rfl k
        have k := lz_ri rfl (by decide) k
        exact ⟨_, k, Or.inr ⟨rfl, fun c => absurd c.2.2 (me_nle h27)⟩⟩
      · rw [if_neg (show ¬ ((Int32.ofInt 57) < (f y)) from h27)] at k
        have k := ly_revb 2 (c' := (35, [(0, .ref B), (1, .int (nI y))], [.int (Int32.ofInt 1)], me_w M J)) rfl k
        have k := lz_ri rfl (by decide) k
        exact ⟨_, k, Or.inl ⟨rfl, by omega, me_le h16, me_le h27⟩⟩
theorem md_wordHere {X : nt_X} {d t x B Tb Sg Ln q m : Nat} {f : Nat → Int32} {M : nt_M} {J0 J : Nat → Nat → Int32} {o : Option Value × nt_M} {wr : Int32} {e : Nat × (Nat → Int32)} (hP : md_P M J0 f t x B Tb Sg Ln) (hS : md_S J0 B Sg Ln x q wr m e J) (hp : q ≤ t) (k : nt_ev X d 156 [.ref B] (me_w M J) o) : ∃ r, o = (some (.int r), me_w M (nt_u J B 15 (nI (lb_s f t q)))) ∧ ((∃ w, w < 10 ∧ r = nI w ∧ lb_ws f t (lb_s f t q) w ∧ ∀ v, v < w → ¬ lb_ws f t (lb_s f t q) v) ∨ r = Int32.ofInt (-1) ∧ ∀ v, v < 10 → ¬ lb_ws f t (lb_s f t q) v) := by
  have k : nt_rn X d 156 (0, [(0, .ref B)], [], me_w M J) o := k
  have t4 : t ≤ 400 := hP.2.2.2.2.2.1
  have hp1 : lb_s f t q ≤ t := (lb_s_le (t - q) q (by omega)).2
  have hss : lb_s f t (lb_s f t q) = lb_s f t q := lb_ss hp
  have k := ly_revb 2 (c' := (4, [(0, .ref B)], [.long (482854661739), .ref B], me_w M J)) rfl k
  obtain ⟨d1, o1, ed, kc, k⟩ := lz_c (g := 137) (q := 1) (vs := [.ref B, .long (482854661739)]) (rest := []) rfl rfl (by decide) (Or.inr (Or.inl ⟨_, rfl, rfl⟩)) rfl k
  obtain ⟨r, e1, hr⟩ := md_isWord hP hS hp kc
  subst e1
  rw [lb_w_plank] at hr
  rcases hr with ⟨rfl, g0⟩ | ⟨rfl, g0⟩
  · have hS1 := md_Sq (y := lb_s f t q) hP hS
    have k : nt_rn X _ 156 (7, [(0, .ref B)], [.int (Int32.ofInt 1)], me_w M (nt_u J B 15 (nI (lb_s f t q)))) _ := k
    have k := ly_revb 1 (c' := (if (Int32.ofInt 1) = 0 then 12 else 10, [(0, .ref B)], [], me_w M (nt_u J B 15 (nI (lb_s f t q))))) rfl k
    rw [if_neg (show ¬ ((Int32.ofInt 1) = 0) from by decide)] at k
    have k := ly_revb 1 (c' := (11, [(0, .ref B)], [.int (Int32.ofInt 0)], me_w M (nt_u J B 15 (nI (lb_s f t q))))) rfl k
    have k := lz_ri rfl (by decide) k
    refine ⟨_, k, Or.inl ⟨0, by decide, rfl, g0, fun v hv => ?_⟩⟩
    omega
  · have hS1 := md_Sq (y := lb_s f t q) hP hS
    have k : nt_rn X _ 156 (7, [(0, .ref B)], [.int (Int32.ofInt 0)], me_w M (nt_u J B 15 (nI (lb_s f t q)))) _ := k
    have k := ly_revb 1 (c' := (if (Int32.ofInt 0) = 0 then 12 else 10, [(0, .ref B)], [], me_w M (nt_u J B 15 (nI (lb_s f t q))))) rfl k
    rw [if_pos (show (Int32.ofInt 0) = 0 from by decide)] at k
    have k := ly_revb 2 (c' := (16, [(0, .ref B)], [.long (1802071652), .ref B], me_w M (nt_u J B 15 (nI (lb_s f t q))))) rfl k
    obtain ⟨d1, o1, ed, kc, k⟩ := lz_c (g := 137) (q := 1) (vs := [.ref B, .long (1802071652)]) (rest := []) rfl rfl (by decide) (Or.inr (Or.inl ⟨_, rfl, rfl⟩)) rfl k
    obtain ⟨r, e1, hr⟩ := md_isWord hP hS1 hp1 kc
    rw [hss, me_uu] at e1
    rw [hss] at hr
    subst e1
    rw [lb_w_kind] at hr
    rcases hr with ⟨rfl, g1⟩ | ⟨rfl, g1⟩
    · have k : nt_rn X _ 156 (19, [(0, .ref B)], [.int (Int32.ofInt 1)], me_w M (nt_u J B 15 (nI (lb_s f t q)))) _ := k
      have k := ly_revb 1 (c' := (if (Int32.ofInt 1) = 0 then 24 else 22, [(0, .ref B)], [], me_w M (nt_u J B 15 (nI (lb_s f t q))))) rfl k
      rw [if_neg (show ¬ ((Int32.ofInt 1) = 0) from by decide)] at k
      have k := ly_revb 1 (c' := (23, [(0, .ref B)], [.int (Int32.ofInt 1)], me_w M (nt_u J B 15 (nI (lb_s f t q))))) rfl k
      have k := lz_ri rfl (by decide) k
      refine ⟨_, k, Or.inl ⟨1, by decide, rfl, g1, fun v hv => ?_⟩⟩
      rcases (by omega : v = 0) with rfl
      · exact g0
    · have k : nt_rn X _ 156 (19, [(0, .ref B)], [.int (Int32.ofInt 0)], me_w M (nt_u J B 15 (nI (lb_s f t q)))) _ := k
      have k := ly_revb 1 (c' := (if (Int32.ofInt 0) = 0 then 24 else 22, [(0, .ref B)], [], me_w M (nt_u J B 15 (nI (lb_s f t q))))) rfl k
      rw [if_pos (show (Int32.ofInt 0) = 0 from by decide)] at k
      have k := ly_revb 2 (c' := (28, [(0, .ref B)], [.long (7499636), .ref B], me_w M (nt_u J B 15 (nI (lb_s f t q))))) rfl k
      obtain ⟨d1, o1, ed, kc, k⟩ := lz_c (g := 137) (q := 1) (vs := [.ref B, .long (7499636)]) (rest := []) rfl rfl (by decide) (Or.inr (Or.inl ⟨_, rfl, rfl⟩)) rfl k
      obtain ⟨r, e1, hr⟩ := md_isWord hP hS1 hp1 kc
      rw [hss, me_uu] at e1
      rw [hss] at hr
      subst e1
      rw [lb_w_rot] at hr
      rcases hr with ⟨rfl, g2⟩ | ⟨rfl, g2⟩
      · have k : nt_rn X _ 156 (31, [(0, .ref B)], [.int (Int32.ofInt 1)], me_w M (nt_u J B 15 (nI (lb_s f t q)))) _ := k
        have k := ly_revb 1 (c' := (if (Int32.ofInt 1) = 0 then 36 else 34, [(0, .ref B)], [], me_w M (nt_u J B 15 (nI (lb_s f t q))))) rfl k
        rw [if_neg (show ¬ ((Int32.ofInt 1) = 0) from by decide)] at k
        have k := ly_revb 1 (c' := (35, [(0, .ref B)], [.int (Int32.ofInt 2)], me_w M (nt_u J B 15 (nI (lb_s f t q))))) rfl k
        have k := lz_ri rfl (by decide) k
        refine ⟨_, k, Or.inl ⟨2, by decide, rfl, g2, fun v hv => ?_⟩⟩
        rcases (by omega : v = 0 ∨ v = 1) with rfl | rfl
        · exact g0
        · exact g1
      · have k : nt_rn X _ 156 (31, [(0, .ref B)], [.int (Int32.ofInt 0)], me_w M (nt_u J B 15 (nI (lb_s f t q)))) _ := k
        have k := ly_revb 1 (c' := (if (Int32.ofInt 0) = 0 then 36 else 34, [(0, .ref B)], [], me_w M (nt_u J B 15 (nI (lb_s f t q))))) rfl k
        rw [if_pos (show (Int32.ofInt 0) = 0 from by decide)] at k
        have k := ly_revb 2 (c' := (40, [(0, .ref B)], [.long (478745093490), .ref B], me_w M (nt_u J B 15 (nI (lb_s f t q))))) rfl k
        obtain ⟨d1, o1, ed, kc, k⟩ := lz_c (g := 137) (q := 1) (vs := [.ref B, .long (478745093490)]) (rest := []) rfl rfl (by decide) (Or.inr (Or.inl ⟨_, rfl, rfl⟩)) rfl k
        obtain ⟨r, e1, hr⟩ := md_isWord hP hS1 hp1 kc
        rw [hss, me_uu] at e1
        rw [hss] at hr
        subst e1
        rw [lb_w_owner] at hr
        rcases hr with ⟨rfl, g3⟩ | ⟨rfl, g3⟩
        · have k : nt_rn X _ 156 (43, [(0, .ref B)], [.int (Int32.ofInt 1)], me_w M (nt_u J B 15 (nI (lb_s f t q)))) _ := k
          have k := ly_revb 1 (c' := (if (Int32.ofInt 1) = 0 then 48 else 46, [(0, .ref B)], [], me_w M (nt_u J B 15 (nI (lb_s f t q))))) rfl k
          rw [if_neg (show ¬ ((Int32.ofInt 1) = 0) from by decide)] at k
          have k := ly_revb 1 (c' := (47, [(0, .ref B)], [.int (Int32.ofInt 3)], me_w M (nt_u J B 15 (nI (lb_s f t q))))) rfl k
          have k := lz_ri rfl (by decide) k
          refine ⟨_, k, Or.inl ⟨3, by decide, rfl, g3, fun v hv => ?_⟩⟩
          rcases (by omega : v = 0 ∨ v = 1 ∨ v = 2) with rfl | rfl | rfl
          · exact g0
          · exact g1
          · exact g2
        · have k : nt_rn X _ 156 (43, [(0, .ref B)], [.int (Int32.ofInt 0)], me_w M (nt_u J B 15 (nI (lb_s f t q)))) _ := k
          have k := ly_revb 1 (c' := (if (Int32.ofInt 0) = 0 then 48 else 46, [(0, .ref B)], [], me_w M (nt_u J B 15 (nI (lb_s f t q))))) rfl k
          rw [if_pos (show (Int32.ofInt 0) = 0 from by decide)] at k
          have k := ly_revb 2 (c' := (52, [(0, .ref B)], [.long (1936222576), .ref B], me_w M (nt_u J B 15 (nI (lb_s f t q))))) rfl k
          obtain ⟨d1, o1, ed, kc, k⟩ := lz_c (g := 137) (q := 1) (vs := [.ref B, .long (1936222576)]) (rest := []) rfl rfl (by decide) (Or.inr (Or.inl ⟨_, rfl, rfl⟩)) rfl k
          obtain ⟨r, e1, hr⟩ := md_isWord hP hS1 hp1 kc
          rw [hss, me_uu] at e1
          rw [hss] at hr
          subst e1
          rw [lb_w_ship] at hr
          rcases hr with ⟨rfl, g4⟩ | ⟨rfl, g4⟩
          · have k : nt_rn X _ 156 (55, [(0, .ref B)], [.int (Int32.ofInt 1)], me_w M (nt_u J B 15 (nI (lb_s f t q)))) _ := k
            have k := ly_revb 1 (c' := (if (Int32.ofInt 1) = 0 then 60 else 58, [(0, .ref B)], [], me_w M (nt_u J B 15 (nI (lb_s f t q))))) rfl k
            rw [if_neg (show ¬ ((Int32.ofInt 1) = 0) from by decide)] at k
            have k := ly_revb 1 (c' := (59, [(0, .ref B)], [.int (Int32.ofInt 4)], me_w M (nt_u J B 15 (nI (lb_s f t q))))) rfl k
            have k := lz_ri rfl (by decide) k
            refine ⟨_, k, Or.inl ⟨4, by decide, rfl, g4, fun v hv => ?_⟩⟩
            rcases (by omega : v = 0 ∨ v = 1 ∨ v = 2 ∨ v = 3) with rfl | rfl | rfl | rfl
            · exact g0
            · exact g1
            · exact g2
            · exact g3
          · have k : nt_rn X _ 156 (55, [(0, .ref B)], [.int (Int32.ofInt 0)], me_w M (nt_u J B 15 (nI (lb_s f t q)))) _ := k
            have k := ly_revb 1 (c' := (if (Int32.ofInt 0) = 0 then 60 else 58, [(0, .ref B)], [], me_w M (nt_u J B 15 (nI (lb_s f t q))))) rfl k
            rw [if_pos (show (Int32.ofInt 0) = 0 from by decide)] at k
            have k := ly_revb 2 (c' := (64, [(0, .ref B)], [.long (1718775661), .ref B], me_w M (nt_u J B 15 (nI (lb_s f t q))))) rfl k
            obtain ⟨d1, o1, ed, kc, k⟩ := lz_c (g := 137) (q := 1) (vs := [.ref B, .long (1718775661)]) (rest := []) rfl rfl (by decide) (Or.inr (Or.inl ⟨_, rfl, rfl⟩)) rfl k
            obtain ⟨r, e1, hr⟩ := md_isWord hP hS1 hp1 kc
            rw [hss, me_uu] at e1
            rw [hss] at hr
            subst e1
            rw [lb_w_from] at hr
            rcases hr with ⟨rfl, g5⟩ | ⟨rfl, g5⟩
            · have k : nt_rn X _ 156 (67, [(0, .ref B)], [.int (Int32.ofInt 1)], me_w M (nt_u J B 15 (nI (lb_s f t q)))) _ := k
              have k := ly_revb 1 (c' := (if (Int32.ofInt 1) = 0 then 72 else 70, [(0, .ref B)], [], me_w M (nt_u J B 15 (nI (lb_s f t q))))) rfl k
              rw [if_neg (show ¬ ((Int32.ofInt 1) = 0) from by decide)] at k
              have k := ly_revb 1 (c' := (71, [(0, .ref B)], [.int (Int32.ofInt 5)], me_w M (nt_u J B 15 (nI (lb_s f t q))))) rfl k
              have k := lz_ri rfl (by decide) k
              refine ⟨_, k, Or.inl ⟨5, by decide, rfl, g5, fun v hv => ?_⟩⟩
              rcases (by omega : v = 0 ∨ v = 1 ∨ v = 2 ∨ v = 3 ∨ v = 4) with rfl | rfl | rfl | rfl | rfl
              · exact g0
              · exact g1
              · exact g2
              · exact g3
              · exact g4
            · have k : nt_rn X _ 156 (67, [(0, .ref B)], [.int (Int32.ofInt 0)], me_w M (nt_u J B 15 (nI (lb_s f t q)))) _ := k
              have k := ly_revb 1 (c' := (if (Int32.ofInt 0) = 0 then 72 else 70, [(0, .ref B)], [], me_w M (nt_u J B 15 (nI (lb_s f t q))))) rfl k
              rw [if_pos (show (Int32.ofInt 0) = 0 from by decide)] at k
              have k := ly_revb 2 (c' := (76, [(0, .ref B)], [.long (7305070), .ref B], me_w M (nt_u J B 15 (nI (lb_s f t q))))) rfl k
              obtain ⟨d1, o1, ed, kc, k⟩ := lz_c (g := 137) (q := 1) (vs := [.ref B, .long (7305070)]) (rest := []) rfl rfl (by decide) (Or.inr (Or.inl ⟨_, rfl, rfl⟩)) rfl k
              obtain ⟨r, e1, hr⟩ := md_isWord hP hS1 hp1 kc
              rw [hss, me_uu] at e1
              rw [hss] at hr
              subst e1
              rw [lb_w_own] at hr
              rcases hr with ⟨rfl, g6⟩ | ⟨rfl, g6⟩
              · have k : nt_rn X _ 156 (79, [(0, .ref B)], [.int (Int32.ofInt 1)], me_w M (nt_u J B 15 (nI (lb_s f t q)))) _ := k
                have k := ly_revb 1 (c' := (if (Int32.ofInt 1) = 0 then 85 else 82, [(0, .ref B)], [], me_w M (nt_u J B 15 (nI (lb_s f t q))))) rfl k
                rw [if_neg (show ¬ ((Int32.ofInt 1) = 0) from by decide)] at k
                have k := ly_revb 1 (c' := (84, [(0, .ref B)], [.int (Int32.ofInt 6)], me_w M (nt_u J B 15 (nI (lb_s f t q))))) rfl k
                have k := lz_ri rfl (by decide) k
                refine ⟨_, k, Or.inl ⟨6, by decide, rfl, g6, fun v hv => ?_⟩⟩
                rcases (by omega : v = 0 ∨ v = 1 ∨ v = 2 ∨ v = 3 ∨ v = 4 ∨ v = 5) with rfl | rfl | rfl | rfl | rfl | rfl
                · exact g0
                · exact g1
                · exact g2
                · exact g3
                · exact g4
                · exact g5
              · have k : nt_rn X _ 156 (79, [(0, .ref B)], [.int (Int32.ofInt 0)], me_w M (nt_u J B 15 (nI (lb_s f t q)))) _ := k
                have k := ly_revb 1 (c' := (if (Int32.ofInt 0) = 0 then 85 else 82, [(0, .ref B)], [], me_w M (nt_u J B 15 (nI (lb_s f t q))))) rfl k
                rw [if_pos (show (Int32.ofInt 0) = 0 from by decide)] at k
                have k := ly_revb 2 (c' := (89, [(0, .ref B)], [.long (6578553), .ref B], me_w M (nt_u J B 15 (nI (lb_s f t q))))) rfl k
                obtain ⟨d1, o1, ed, kc, k⟩ := lz_c (g := 137) (q := 1) (vs := [.ref B, .long (6578553)]) (rest := []) rfl rfl (by decide) (Or.inr (Or.inl ⟨_, rfl, rfl⟩)) rfl k
                obtain ⟨r, e1, hr⟩ := md_isWord hP hS1 hp1 kc
                rw [hss, me_uu] at e1
                rw [hss] at hr
                subst e1
                rw [lb_w_day] at hr
                rcases hr with ⟨rfl, g7⟩ | ⟨rfl, g7⟩
                · have k : nt_rn X _ 156 (92, [(0, .ref B)], [.int (Int32.ofInt 1)], me_w M (nt_u J B 15 (nI (lb_s f t q)))) _ := k
                  have k := ly_revb 1 (c' := (if (Int32.ofInt 1) = 0 then 98 else 95, [(0, .ref B)], [], me_w M (nt_u J B 15 (nI (lb_s f t q))))) rfl k
                  rw [if_neg (show ¬ ((Int32.ofInt 1) = 0) from by decide)] at k
                  have k := ly_revb 1 (c' := (97, [(0, .ref B)], [.int (Int32.ofInt 7)], me_w M (nt_u J B 15 (nI (lb_s f t q))))) rfl k
                  have k := lz_ri rfl (by decide) k
                  refine ⟨_, k, Or.inl ⟨7, by decide, rfl, g7, fun v hv => ?_⟩⟩
                  rcases (by omega : v = 0 ∨ v = 1 ∨ v = 2 ∨ v = 3 ∨ v = 4 ∨ v = 5 ∨ v = 6) with rfl | rfl | rfl | rfl | rfl | rfl | rfl
                  · exact g0
                  · exact g1
                  · exact g2
                  · exact g3
                  · exact g4
                  · exact g5
                  · exact g6
                · have k : nt_rn X _ 156 (92, [(0, .ref B)], [.int (Int32.ofInt 0)], me_w M (nt_u J B 15 (nI (lb_s f t q)))) _ := k
                  have k := ly_revb 1 (c' := (if (Int32.ofInt 0) = 0 then 98 else 95, [(0, .ref B)], [], me_w M (nt_u J B 15 (nI (lb_s f t q))))) rfl k
                  rw [if_pos (show (Int32.ofInt 0) = 0 from by decide)] at k
                  have k := ly_revb 2 (c' := (102, [(0, .ref B)], [.long (470021465459), .ref B], me_w M (nt_u J B 15 (nI (lb_s f t q))))) rfl k
                  obtain ⟨d1, o1, ed, kc, k⟩ := lz_c (g := 137) (q := 1) (vs := [.ref B, .long (470021465459)]) (rest := []) rfl rfl (by decide) (Or.inr (Or.inl ⟨_, rfl, rfl⟩)) rfl k
                  obtain ⟨r, e1, hr⟩ := md_isWord hP hS1 hp1 kc
                  rw [hss, me_uu] at e1
                  rw [hss] at hr
                  subst e1
                  rw [lb_w_moves] at hr
                  rcases hr with ⟨rfl, g8⟩ | ⟨rfl, g8⟩
                  · have k : nt_rn X _ 156 (105, [(0, .ref B)], [.int (Int32.ofInt 1)], me_w M (nt_u J B 15 (nI (lb_s f t q)))) _ := k
                    have k := ly_revb 1 (c' := (if (Int32.ofInt 1) = 0 then 113 else 108, [(0, .ref B)], [], me_w M (nt_u J B 15 (nI (lb_s f t q))))) rfl k
                    rw [if_neg (show ¬ ((Int32.ofInt 1) = 0) from by decide)] at k
                    have k := ly_revb 2 (c' := (129, [(0, .ref B)], [.int (Int32.ofInt 8)], me_w M (nt_u J B 15 (nI (lb_s f t q))))) rfl k
                    have k := lz_ri rfl (by decide) k
                    refine ⟨_, k, Or.inl ⟨8, by decide, rfl, g8, fun v hv => ?_⟩⟩
                    rcases (by omega : v = 0 ∨ v = 1 ∨ v = 2 ∨ v = 3 ∨ v = 4 ∨ v = 5 ∨ v = 6 ∨ v = 7) with rfl | rfl | rfl | rfl | rfl | rfl | rfl | rfl
                    · exact g0
                    · exact g1
                    · exact g2
                    · exact g3
                    · exact g4
                    · exact g5
                    · exact g6
                    · exact g7
                  · have k : nt_rn X _ 156 (105, [(0, .ref B)], [.int (Int32.ofInt 0)], me_w M (nt_u J B 15 (nI (lb_s f t q)))) _ := k
                    have k := ly_revb 1 (c' := (if (Int32.ofInt 0) = 0 then 113 else 108, [(0, .ref B)], [], me_w M (nt_u J B 15 (nI (lb_s f t q))))) rfl k
                    rw [if_pos (show (Int32.ofInt 0) = 0 from by decide)] at k
                    have k := ly_revb 2 (c' := (117, [(0, .ref B)], [.long (119182899770472), .ref B], me_w M (nt_u J B 15 (nI (lb_s f t q))))) rfl k
                    obtain ⟨d1, o1, ed, kc, k⟩ := lz_c (g := 137) (q := 1) (vs := [.ref B, .long (119182899770472)]) (rest := []) rfl rfl (by decide) (Or.inr (Or.inl ⟨_, rfl, rfl⟩)) rfl k
                    obtain ⟨r, e1, hr⟩ := md_isWord hP hS1 hp1 kc
                    rw [hss, me_uu] at e1
                    rw [hss] at hr
                    subst e1
                    rw [lb_w_length] at hr
                    rcases hr with ⟨rfl, g9⟩ | ⟨rfl, g9⟩
                    · have k : nt_rn X _ 156 (120, [(0, .ref B)], [.int (Int32.ofInt 1)], me_w M (nt_u J B 15 (nI (lb_s f t q)))) _ := k
                      have k := ly_revb 1 (c' := (if (Int32.ofInt 1) = 0 then 128 else 123, [(0, .ref B)], [], me_w M (nt_u J B 15 (nI (lb_s f t q))))) rfl k
                      rw [if_neg (show ¬ ((Int32.ofInt 1) = 0) from by decide)] at k
                      have k := ly_revb 2 (c' := (129, [(0, .ref B)], [.int (Int32.ofInt 9)], me_w M (nt_u J B 15 (nI (lb_s f t q))))) rfl k
                      have k := lz_ri rfl (by decide) k
                      refine ⟨_, k, Or.inl ⟨9, by decide, rfl, g9, fun v hv => ?_⟩⟩
                      rcases (by omega : v = 0 ∨ v = 1 ∨ v = 2 ∨ v = 3 ∨ v = 4 ∨ v = 5 ∨ v = 6 ∨ v = 7 ∨ v = 8) with rfl | rfl | rfl | rfl | rfl | rfl | rfl | rfl | rfl
                      · exact g0
                      · exact g1
                      · exact g2
                      · exact g3
                      · exact g4
                      · exact g5
                      · exact g6
                      · exact g7
                      · exact g8
                    · have k : nt_rn X _ 156 (120, [(0, .ref B)], [.int (Int32.ofInt 0)], me_w M (nt_u J B 15 (nI (lb_s f t q)))) _ := k
                      have k := ly_revb 1 (c' := (if (Int32.ofInt 0) = 0 then 128 else 123, [(0, .ref B)], [], me_w M (nt_u J B 15 (nI (lb_s f t q))))) rfl k
                      rw [if_pos (show (Int32.ofInt 0) = 0 from by decide)] at k
                      have k := ly_revb 1 (c' := (129, [(0, .ref B)], [.int (Int32.ofInt (-1))], me_w M (nt_u J B 15 (nI (lb_s f t q))))) rfl k
                      have k := lz_ri rfl (by decide) k
                      refine ⟨_, k, Or.inr ⟨rfl, fun v hv => ?_⟩⟩
                      rcases (by omega : v = 0 ∨ v = 1 ∨ v = 2 ∨ v = 3 ∨ v = 4 ∨ v = 5 ∨ v = 6 ∨ v = 7 ∨ v = 8 ∨ v = 9) with rfl | rfl | rfl | rfl | rfl | rfl | rfl | rfl | rfl | rfl
                      · exact g0
                      · exact g1
                      · exact g2
                      · exact g3
                      · exact g4
                      · exact g5
                      · exact g6
                      · exact g7
                      · exact g8
                      · exact g9
end
section
/-! a number here -/
theorem lb_d_dig {f : Nat → Int32} {t p n : Nat} (h : lb_d f t p = n + 1) : lb_dig f t p ∧ lb_d f t (p + 1) = n := by
  by_cases c : lb_dig f t p
  · rw [lb_d1 c] at h
    exact ⟨c, by omega⟩
  · rw [lb_d0 c] at h
    omega
theorem md_nhl {X : nt_X} {d t x B Tb Sg Ln m p D : Nat} {f : Nat → Int32} {M : nt_M} {J0 : Nat → Nat → Int32} {o : Option Value × nt_M} {wr lo hi : Int32} {e : Nat × (Nat → Int32)} (hP : md_P M J0 f t x B Tb Sg Ln) (hD : p + D ≤ t) : ∀ (c n : Nat) (J : Nat → Nat → Int32), lb_d f t (p + n) = c → n + c = D → md_S J0 B Sg Ln x (p + n) wr m e J → nt_rn X d 143 (34, [(4, .int (lb_v f p (min n 5))), (3, .int (nI p)), (0, .ref B), (1, .int lo), (2, .int hi)], [], me_w M J) o → nt_rn X d 143 (88, [(4, .int (lb_v f p (min D 5))), (3, .int (nI p)), (0, .ref B), (1, .int lo), (2, .int hi)], [], me_w M (nt_u J B 15 (nI (p + D)))) o := by
  have t4 : t ≤ 400 := hP.2.2.2.2.2.1
  intro c
  induction c with
  | zero =>
    intro n J hc hn hS k
    have hn : n = D := by omega
    subst hn
    have k := ly_revb 2 (c' := (36, [(4, .int (lb_v f p (min n 5))), (3, .int (nI p)), (0, .ref B), (1, .int (lo)), (2, .int (hi))], [.ref B, .ref B], me_w M J)) rfl k
    have k := lz_get (a := B) (g := 1115) (M := me_w M J) (v := .int (nI (p + n))) rfl (congrArg Value.int (hS.1)) k
    obtain ⟨d1, o1, ed, kc, k⟩ := lz_c (g := 144) (q := 1) (vs := [.ref B, .int (nI (p + n))]) (rest := []) rfl rfl (by decide) (Or.inr (Or.inl ⟨_, rfl, rfl⟩)) rfl k
    obtain ⟨r, e1, hr⟩ := md_isDigit hP hS (by omega) (by omega) kc
    subst e1
    rcases hr with ⟨rfl, hr⟩ | ⟨rfl, hr⟩
    · have k : nt_rn X _ 143 (42, [(4, .int (lb_v f p (min n 5))), (3, .int (nI p)), (0, .ref B), (1, .int (lo)), (2, .int (hi))], [.int (Int32.ofInt 1)], me_w M J) _ := k
      rw [lb_d1 hr] at hc
      omega
    · have k : nt_rn X _ 143 (42, [(4, .int (lb_v f p (min n 5))), (3, .int (nI p)), (0, .ref B), (1, .int (lo)), (2, .int (hi))], [.int (Int32.ofInt 0)], me_w M J) _ := k
      have k := ly_revb 1 (c' := (if (Int32.ofInt 0) = 0 then 88 else 45, [(4, .int (lb_v f p (min n 5))), (3, .int (nI p)), (0, .ref B), (1, .int (lo)), (2, .int (hi))], [], me_w M J)) rfl k
      rw [if_pos (show (Int32.ofInt 0) = 0 from by decide)] at k
      rw [me_ui hS.1]
      exact k
  | succ c ih =>
    intro n J hc hn hS k
    obtain ⟨hdg, hc1⟩ := lb_d_dig hc
    have k := ly_revb 2 (c' := (36, [(4, .int (lb_v f p (min n 5))), (3, .int (nI p)), (0, .ref B), (1, .int (lo)), (2, .int (hi))], [.ref B, .ref B], me_w M J)) rfl k
    have k := lz_get (a := B) (g := 1115) (M := me_w M J) (v := .int (nI (p + n))) rfl (congrArg Value.int (hS.1)) k
    obtain ⟨d1, o1, ed, kc, k⟩ := lz_c (g := 144) (q := 1) (vs := [.ref B, .int (nI (p + n))]) (rest := []) rfl rfl (by decide) (Or.inr (Or.inl ⟨_, rfl, rfl⟩)) rfl k
    obtain ⟨r, e1, hr⟩ := md_isDigit hP hS (by omega) (by omega) kc
    subst e1
    rcases hr with ⟨rfl, hr⟩ | ⟨rfl, hr⟩
    · have k : nt_rn X _ 143 (42, [(4, .int (lb_v f p (min n 5))), (3, .int (nI p)), (0, .ref B), (1, .int (lo)), (2, .int (hi))], [.int (Int32.ofInt 1)], me_w M J) _ := k
      have k := ly_revb 1 (c' := (if (Int32.ofInt 1) = 0 then 88 else 45, [(4, .int (lb_v f p (min n 5))), (3, .int (nI p)), (0, .ref B), (1, .int (lo)), (2, .int (hi))], [], me_w M J)) rfl k
      rw [if_neg (show ¬ ((Int32.ofInt 1) = 0) from by decide)] at k
      have k := ly_revb 1 (c' := (46, [(4, .int (lb_v f p (min n 5))), (3, .int (nI p)), (0, .ref B), (1, .int (lo)), (2, .int (hi))], [.ref B], me_w M J)) rfl k
      have k := lz_get (a := B) (g := 1115) (M := me_w M J) (v := .int (nI (p + n))) rfl (congrArg Value.int (hS.1)) k
      have k := ly_revb 2 (c' := (51, [(4, .int (lb_v f p (min n 5))), (3, .int (nI p)), (0, .ref B), (1, .int (lo)), (2, .int (hi))], [.int ((nI (p + n)) - (nI p))], me_w M J)) rfl k
      rw [show ((nI (p + n)) - (nI p) : Int32) = nI n from (me_subn (by omega)).trans (congrArg nI (by omega))] at k
      have k := ly_revb 2 (c' := (if (Int32.ofInt 5) ≤ (nI n) then 75 else 55, [(4, .int (lb_v f p (min n 5))), (3, .int (nI p)), (0, .ref B), (1, .int (lo)), (2, .int (hi))], [], me_w M J)) rfl k
      by_cases h52 : 5 ≤ n
      · rw [if_pos (show (Int32.ofInt 5) ≤ (nI n) from show nI 5 ≤ nI n from nI_le h52 (by omega))] at k
        have k := ly_revb 2 (c' := (77, [(4, .int (lb_v f p (min n 5))), (3, .int (nI p)), (0, .ref B), (1, .int (lo)), (2, .int (hi))], [.ref B, .ref B], me_w M J)) rfl k
        have k := lz_get (a := B) (g := 1115) (M := me_w M J) (v := .int (nI (p + n))) rfl (congrArg Value.int (hS.1)) k
        have k := ly_revb 2 (c' := (82, [(4, .int (lb_v f p (min n 5))), (3, .int (nI p)), (0, .ref B), (1, .int (lo)), (2, .int (hi))], [.int ((nI (p + n)) + (Int32.ofInt 1)), .ref B], me_w M J)) rfl k
        rw [show ((nI (p + n)) + (Int32.ofInt 1) : Int32) = nI (p + (n + 1)) from me_add (k := 1)] at k
        have k := me_put rfl (by decide) k
        have k : nt_rn X _ 143 (85, [(4, .int (lb_v f p (min n 5))), (3, .int (nI p)), (0, .ref B), (1, .int (lo)), (2, .int (hi))], [], me_w M (nt_u J B 15 (nI (p + (n + 1))))) _ := k
        have k := ly_revb 1 (c' := (34, [(4, .int (lb_v f p (min n 5))), (3, .int (nI p)), (0, .ref B), (1, .int (lo)), (2, .int (hi))], [], me_w M (nt_u J B 15 (nI (p + (n + 1)))))) rfl k
        have ev : lb_v f p (min n 5) = lb_v f p (min (n + 1) 5) := by rw [show min n 5 = 5 from by omega, show min (n + 1) 5 = 5 from by omega]
        rw [ev] at k
        have k := ih (n + 1) _ hc1 (by omega) (md_Sq (y := p + (n + 1)) hP hS) k
        rw [me_uu] at k
        exact k
      · rw [if_neg (show ¬ ((Int32.ofInt 5) ≤ (nI n)) from show ¬ nI 5 ≤ nI n from nI_ge (Nat.not_le.mp h52) (by omega))] at k
        have k := ly_revb 4 (c' := (61, [(4, .int (lb_v f p (min n 5))), (3, .int (nI p)), (0, .ref B), (1, .int (lo)), (2, .int (hi))], [.ref B, .int ((Int32.ofInt 10) * (lb_v f p (min n 5)))], me_w M J)) rfl k
        have k := lz_get (a := B) (g := 1100) (M := me_w M J) (v := .ref Tb) rfl (nt_gfR rfl hP.1.1) k
        have k := ly_revb 1 (c' := (65, [(4, .int (lb_v f p (min n 5))), (3, .int (nI p)), (0, .ref B), (1, .int (lo)), (2, .int (hi))], [.ref B, .ref Tb, .int ((Int32.ofInt 10) * (lb_v f p (min n 5)))], me_w M J)) rfl k
        have k := lz_get (a := B) (g := 1115) (M := me_w M J) (v := .int (nI (p + n))) rfl (congrArg Value.int (hS.1)) k
        have k := me_bald (q := (p + n)) (v := f ((p + n))) rfl (rfl) (by omega) (md_f hP hS ((p + n))) k
        have k := ly_revb 6 (c' := (77, [(4, .int ((((Int32.ofInt 10) * (lb_v f p (min n 5))) + (f ((p + n)))) - (Int32.ofInt 48))), (3, .int (nI p)), (0, .ref B), (1, .int (lo)), (2, .int (hi))], [.ref B, .ref B], me_w M J)) rfl k
        have k := lz_get (a := B) (g := 1115) (M := me_w M J) (v := .int (nI (p + n))) rfl (congrArg Value.int (hS.1)) k
        have k := ly_revb 2 (c' := (82, [(4, .int ((((Int32.ofInt 10) * (lb_v f p (min n 5))) + (f ((p + n)))) - (Int32.ofInt 48))), (3, .int (nI p)), (0, .ref B), (1, .int (lo)), (2, .int (hi))], [.int ((nI (p + n)) + (Int32.ofInt 1)), .ref B], me_w M J)) rfl k
        rw [show ((nI (p + n)) + (Int32.ofInt 1) : Int32) = nI (p + (n + 1)) from me_add (k := 1)] at k
        have k := me_put rfl (by decide) k
        have k : nt_rn X _ 143 (85, [(4, .int ((((Int32.ofInt 10) * (lb_v f p (min n 5))) + (f ((p + n)))) - (Int32.ofInt 48))), (3, .int (nI p)), (0, .ref B), (1, .int (lo)), (2, .int (hi))], [], me_w M (nt_u J B 15 (nI (p + (n + 1))))) _ := k
        have k := ly_revb 1 (c' := (34, [(4, .int ((((Int32.ofInt 10) * (lb_v f p (min n 5))) + (f ((p + n)))) - (Int32.ofInt 48))), (3, .int (nI p)), (0, .ref B), (1, .int (lo)), (2, .int (hi))], [], me_w M (nt_u J B 15 (nI (p + (n + 1)))))) rfl k
        have ev : (((Int32.ofInt 10) * (lb_v f p (min n 5))) + (f ((p + n)))) - (Int32.ofInt 48) = lb_v f p (min (n + 1) 5) := by
          rw [show min n 5 = n from by omega, show min (n + 1) 5 = n + 1 from by omega, Int32.mul_comm]
          rfl
        rw [ev] at k
        have k := ih (n + 1) _ hc1 (by omega) (md_Sq (y := p + (n + 1)) hP hS) k
        rw [me_uu] at k
        exact k
    · have k : nt_rn X _ 143 (42, [(4, .int (lb_v f p (min n 5))), (3, .int (nI p)), (0, .ref B), (1, .int (lo)), (2, .int (hi))], [.int (Int32.ofInt 0)], me_w M J) _ := k
      exact absurd hdg hr
end
section
/-! a number here, the whole -/
theorem lg_lt {a b : Int32} : lg_cmp a.toInt64 b.toInt64 < 0 ↔ a.toInt < b.toInt := by
  unfold lg_cmp
  by_cases h1 : a.toInt64 > b.toInt64
  · rw [if_pos h1]
    have q := Int64.lt_iff_toInt_lt.mp h1
    rw [Int32.toInt_toInt64, Int32.toInt_toInt64] at q
    exact ⟨fun c => absurd c (by decide), fun c => by omega⟩
  · rw [if_neg h1]
    have q : ¬ b.toInt64.toInt < a.toInt64.toInt := fun c => h1 (Int64.lt_iff_toInt_lt.mpr c)
    rw [Int32.toInt_toInt64, Int32.toInt_toInt64] at q
    by_cases h2 : a.toInt64 = b.toInt64
    · rw [if_pos h2]
      have q2 := congrArg Int64.toInt h2
      rw [Int32.toInt_toInt64, Int32.toInt_toInt64] at q2
      exact ⟨fun c => absurd c (by decide), fun c => by omega⟩
    · rw [if_neg h2]
      refine ⟨fun _ => ?_, fun _ => by decide⟩
      have q3 : a.toInt ≠ b.toInt := fun c => h2 (Int64.toInt_inj.mp (by rw [Int32.toInt_toInt64, Int32.toInt_toInt64]; exact c))
      omega
theorem lg_gt {a b : Int32} : 0 < lg_cmp a.toInt64 b.toInt64 ↔ b.toInt < a.toInt := by
  unfold lg_cmp
  by_cases h1 : a.toInt64 > b.toInt64
  · rw [if_pos h1]
    have q := Int64.lt_iff_toInt_lt.mp h1
    rw [Int32.toInt_toInt64, Int32.toInt_toInt64] at q
    exact ⟨fun _ => q, fun _ => by decide⟩
  · rw [if_neg h1]
    have q : ¬ b.toInt64.toInt < a.toInt64.toInt := fun c => h1 (Int64.lt_iff_toInt_lt.mpr c)
    rw [Int32.toInt_toInt64, Int32.toInt_toInt64] at q
    refine ⟨fun c => ?_, fun c => absurd c q⟩
    by_cases h2 : a.toInt64 = b.toInt64
    · rw [if_pos h2] at c; exact absurd c (by decide)
    · rw [if_neg h2] at c; exact absurd c (by decide)
theorem md_in {X : nt_X} {d : Nat} {v lo hi : Int32} {M : nt_M} {J : Nat → Nat → Int32} {o : Option Value × nt_M} (k : nt_ev X d 145 [.long v.toInt64, .long lo.toInt64, .long hi.toInt64] (me_w M J) o) : ∃ r, o = (some (.int r), me_w M J) ∧ (r = Int32.ofInt 1 ∧ (lo.toInt ≤ v.toInt ∧ v.toInt ≤ hi.toInt) ∨ r = Int32.ofInt 0 ∧ ¬ (lo.toInt ≤ v.toInt ∧ v.toInt ≤ hi.toInt)) := by
  have k : nt_rn X d 145 (0, [(0, .long v.toInt64), (2, .long lo.toInt64), (4, .long hi.toInt64)], [], me_w M J) o := k
  have k := ly_revb 4 (c' := (if (lg_cmp v.toInt64 lo.toInt64) < 0 then 17 else 6, [(0, .long (v.toInt64)), (2, .long (lo.toInt64)), (4, .long (hi.toInt64))], [], me_w M J)) rfl k
  by_cases h3 : v.toInt < lo.toInt
  · rw [if_pos (show (lg_cmp v.toInt64 lo.toInt64) < 0 from lg_lt.mpr h3)] at k
    have k := ly_revb 1 (c' := (18, [(0, .long (v.toInt64)), (2, .long (lo.toInt64)), (4, .long (hi.toInt64))], [.int (Int32.ofInt 0)], me_w M J)) rfl k
    have k := lz_ri rfl (by decide) k
    exact ⟨_, k, Or.inr ⟨rfl, fun c => absurd c.1 (by omega)⟩⟩
  · rw [if_neg (show ¬ ((lg_cmp v.toInt64 lo.toInt64) < 0) from fun c => h3 (lg_lt.mp c))] at k
    have k := ly_revb 4 (c' := (if 0 < (lg_cmp v.toInt64 hi.toInt64) then 17 else 13, [(0, .long (v.toInt64)), (2, .long (lo.toInt64)), (4, .long (hi.toInt64))], [], me_w M J)) rfl k
    by_cases h10 : hi.toInt < v.toInt
    · rw [if_pos (show 0 < (lg_cmp v.toInt64 hi.toInt64) from lg_gt.mpr h10)] at k
      have k := ly_revb 1 (c' := (18, [(0, .long (v.toInt64)), (2, .long (lo.toInt64)), (4, .long (hi.toInt64))], [.int (Int32.ofInt 0)], me_w M J)) rfl k
      have k := lz_ri rfl (by decide) k
      exact ⟨_, k, Or.inr ⟨rfl, fun c => absurd c.2 (by omega)⟩⟩
    · rw [if_neg (show ¬ (0 < (lg_cmp v.toInt64 hi.toInt64)) from fun c => h10 (lg_gt.mp c))] at k
      have k := ly_revb 2 (c' := (18, [(0, .long (v.toInt64)), (2, .long (lo.toInt64)), (4, .long (hi.toInt64))], [.int (Int32.ofInt 1)], me_w M J)) rfl k
      have k := lz_ri rfl (by decide) k
      exact ⟨_, k, Or.inl ⟨rfl, by omega, by omega⟩⟩
theorem md_num {X : nt_X} {d t x B Tb Sg Ln q m : Nat} {f : Nat → Int32} {M : nt_M} {J0 J : Nat → Nat → Int32} {o : Option Value × nt_M} {e : Nat × (Nat → Int32)} {lo hi : Int32} (hP : md_P M J0 f t x B Tb Sg Ln) (hS : md_S J0 B Sg Ln x q 0 m e J) (hp : q ≤ t) (k : nt_ev X d 143 [.ref B, .int (lo), .int (hi)] (me_w M J) o) : ∃ r J', o = (some (.int r), me_w M J') ∧ ((lb_d f t (lb_s f t q) = 0 ∧ r = Int32.ofInt 0 ∧ md_S J0 B Sg Ln x (lb_s f t q) (lb_c (lb_s f t q) (Int32.ofInt 0)) m e J') ∨ (0 < lb_d f t (lb_s f t q) ∧ (5 < lb_d f t (lb_s f t q) ∨ ¬ (lo.toInt ≤ (lb_v f (lb_s f t q) (lb_d f t (lb_s f t q))).toInt ∧ (lb_v f (lb_s f t q) (lb_d f t (lb_s f t q))).toInt ≤ hi.toInt)) ∧ r = Int32.ofInt 0 ∧ md_S J0 B Sg Ln x (lb_s f t q + lb_d f t (lb_s f t q)) (lb_c (lb_s f t q) (Int32.ofInt 1)) m e J') ∨ (0 < lb_d f t (lb_s f t q) ∧ lb_d f t (lb_s f t q) ≤ 5 ∧ (lo.toInt ≤ (lb_v f (lb_s f t q) (lb_d f t (lb_s f t q))).toInt ∧ (lb_v f (lb_s f t q) (lb_d f t (lb_s f t q))).toInt ≤ hi.toInt) ∧ r = Int32.ofInt 1 ∧ md_S J0 B Sg Ln x (lb_s f t q + lb_d f t (lb_s f t q)) 0 m e J' ∧ J' B 17 = lb_v f (lb_s f t q) (lb_d f t (lb_s f t q)))) := by
  have k : nt_rn X d 143 (0, [(0, .ref B), (1, .int (lo)), (2, .int (hi))], [], me_w M J) o := k
  have t4 : t ≤ 400 := hP.2.2.2.2.2.1
  have hp1 : lb_s f t q ≤ t := (lb_s_le (t - q) q (by omega)).2
  have hD : lb_s f t q + lb_d f t (lb_s f t q) ≤ t := lb_d_le (t - lb_s f t q) (lb_s f t q) (by omega)
  have k := ly_revb 1 (c' := (1, [(0, .ref B), (1, .int (lo)), (2, .int (hi))], [.ref B], me_w M J)) rfl k
  obtain ⟨d1, o1, ed, kc, k⟩ := lz_c (g := 136) (q := 1) (vs := [.ref B]) (rest := []) rfl rfl (by decide) (Or.inr (Or.inl ⟨_, rfl, rfl⟩)) rfl k
  have e1 := md_see hP hS hp kc
  subst e1
  have hS1 := md_Sq (y := lb_s f t q) hP hS
  have hp1 : lb_s f t q ≤ t := (lb_s_le (t - q) q (by omega)).2
  have k : nt_rn X _ 143 (4, [(0, .ref B), (1, .int (lo)), (2, .int (hi))], [.int (lb_g f t (lb_s f t q))], me_w M (nt_u J B 15 (nI (lb_s f t q)))) _ := k
  have k := ly_revb 3 (c' := (7, [(0, .ref B), (1, .int (lo)), (2, .int (hi))], [.ref B, .ref B], me_w M (nt_u J B 15 (nI (lb_s f t q))))) rfl k
  have k := lz_get (a := B) (g := 1115) (M := me_w M (nt_u J B 15 (nI (lb_s f t q)))) (v := .int (nI (lb_s f t q))) rfl (congrArg Value.int (hS1.1)) k
  obtain ⟨d1, o1, ed, kc, k⟩ := lz_c (g := 144) (q := 1) (vs := [.ref B, .int (nI (lb_s f t q))]) (rest := []) rfl rfl (by decide) (Or.inr (Or.inl ⟨_, rfl, rfl⟩)) rfl k
  obtain ⟨r, e1, hr⟩ := md_isDigit hP hS1 hp1 (by omega) kc
  subst e1
  rcases hr with ⟨rfl, hr⟩ | ⟨rfl, hr⟩
  · have k : nt_rn X _ 143 (13, [(0, .ref B), (1, .int (lo)), (2, .int (hi))], [.int (Int32.ofInt 1)], me_w M (nt_u J B 15 (nI (lb_s f t q)))) _ := k
    have k := ly_revb 1 (c' := (if (Int32.ofInt 1) = 0 then 16 else 26, [(0, .ref B), (1, .int (lo)), (2, .int (hi))], [], me_w M (nt_u J B 15 (nI (lb_s f t q))))) rfl k
    rw [if_neg (show ¬ ((Int32.ofInt 1) = 0) from by decide)] at k
    have k := ly_revb 1 (c' := (27, [(0, .ref B), (1, .int (lo)), (2, .int (hi))], [.ref B], me_w M (nt_u J B 15 (nI (lb_s f t q))))) rfl k
    have k := lz_get (a := B) (g := 1115) (M := me_w M (nt_u J B 15 (nI (lb_s f t q)))) (v := .int (nI (lb_s f t q))) rfl (congrArg Value.int (hS1.1)) k
    have k := ly_revb 3 (c' := (34, [(4, .int (Int32.ofInt 0)), (3, .int (nI (lb_s f t q))), (0, .ref B), (1, .int (lo)), (2, .int (hi))], [], me_w M (nt_u J B 15 (nI (lb_s f t q))))) rfl k
    have hd0 : 0 < lb_d f t (lb_s f t q) := by rw [lb_d1 hr]; omega
    have k := md_nhl (p := lb_s f t q) (D := lb_d f t (lb_s f t q)) hP hD (lb_d f t (lb_s f t q)) 0 _ rfl (by omega) hS1 k
    rw [me_uu] at k
    have hS2 := md_Sq (y := lb_s f t q + lb_d f t (lb_s f t q)) hP hS
    have k : nt_rn X _ 143 (88, [(4, .int (lb_v f (lb_s f t q) (min (lb_d f t (lb_s f t q)) 5))), (3, .int (nI (lb_s f t q))), (0, .ref B), (1, .int (lo)), (2, .int (hi))], [], me_w M (nt_u J B 15 (nI (lb_s f t q + lb_d f t (lb_s f t q))))) _ := k
    have hS3 := md_Sn (y := lb_v f (lb_s f t q) (min (lb_d f t (lb_s f t q)) 5)) hP hS2
    have k := ly_revb 2 (c' := (91, [(4, .int (lb_v f (lb_s f t q) (min (lb_d f t (lb_s f t q)) 5))), (3, .int (nI (lb_s f t q))), (0, .ref B), (1, .int (lo)), (2, .int (hi))], [.int (lb_v f (lb_s f t q) (min (lb_d f t (lb_s f t q)) 5)), .ref B], me_w M (nt_u J B 15 (nI (lb_s f t q + lb_d f t (lb_s f t q)))))) rfl k
    have k := me_put rfl (by decide) k
    have k : nt_rn X _ 143 (94, [(4, .int (lb_v f (lb_s f t q) (min (lb_d f t (lb_s f t q)) 5))), (3, .int (nI (lb_s f t q))), (0, .ref B), (1, .int (lo)), (2, .int (hi))], [], me_w M (nt_u (nt_u J B 15 (nI (lb_s f t q + lb_d f t (lb_s f t q)))) B 17 (lb_v f (lb_s f t q) (min (lb_d f t (lb_s f t q)) 5)))) _ := k
    have k := ly_revb 1 (c' := (95, [(4, .int (lb_v f (lb_s f t q) (min (lb_d f t (lb_s f t q)) 5))), (3, .int (nI (lb_s f t q))), (0, .ref B), (1, .int (lo)), (2, .int (hi))], [.ref B], me_w M (nt_u (nt_u J B 15 (nI (lb_s f t q + lb_d f t (lb_s f t q)))) B 17 (lb_v f (lb_s f t q) (min (lb_d f t (lb_s f t q)) 5))))) rfl k
    have k := lz_get (a := B) (g := 1115) (M := me_w M (nt_u (nt_u J B 15 (nI (lb_s f t q + lb_d f t (lb_s f t q)))) B 17 (lb_v f (lb_s f t q) (min (lb_d f t (lb_s f t q)) 5)))) (v := .int (nI (lb_s f t q + lb_d f t (lb_s f t q)))) rfl (congrArg Value.int ((me_uk (by decide)).trans (hS2.1))) k
    have k := ly_revb 2 (c' := (100, [(4, .int (lb_v f (lb_s f t q) (min (lb_d f t (lb_s f t q)) 5))), (3, .int (nI (lb_s f t q))), (0, .ref B), (1, .int (lo)), (2, .int (hi))], [.int ((nI (lb_s f t q + lb_d f t (lb_s f t q))) - (nI (lb_s f t q)))], me_w M (nt_u (nt_u J B 15 (nI (lb_s f t q + lb_d f t (lb_s f t q)))) B 17 (lb_v f (lb_s f t q) (min (lb_d f t (lb_s f t q)) 5))))) rfl k
    rw [show ((nI (lb_s f t q + lb_d f t (lb_s f t q))) - (nI (lb_s f t q)) : Int32) = nI (lb_d f t (lb_s f t q)) from (me_subn (by omega)).trans (congrArg nI (by omega))] at k
    have k := ly_revb 2 (c' := (if (Int32.ofInt 5) < (nI (lb_d f t (lb_s f t q))) then 117 else 104, [(4, .int (lb_v f (lb_s f t q) (min (lb_d f t (lb_s f t q)) 5))), (3, .int (nI (lb_s f t q))), (0, .ref B), (1, .int (lo)), (2, .int (hi))], [], me_w M (nt_u (nt_u J B 15 (nI (lb_s f t q + lb_d f t (lb_s f t q)))) B 17 (lb_v f (lb_s f t q) (min (lb_d f t (lb_s f t q)) 5))))) rfl k
    by_cases h101 : 5 < lb_d f t (lb_s f t q)
    · rw [if_pos (show (Int32.ofInt 5) < (nI (lb_d f t (lb_s f t q))) from show nI 5 < nI (lb_d f t (lb_s f t q)) from nI_lt h101 (by omega))] at k
      have k := ly_revb 3 (c' := (120, [(4, .int (lb_v f (lb_s f t q) (min (lb_d f t (lb_s f t q)) 5))), (3, .int (nI (lb_s f t q))), (0, .ref B), (1, .int (lo)), (2, .int (hi))], [.int (nI (lb_s f t q)), .int (Int32.ofInt 1), .ref B], me_w M (nt_u (nt_u J B 15 (nI (lb_s f t q + lb_d f t (lb_s f t q)))) B 17 (lb_v f (lb_s f t q) (min (lb_d f t (lb_s f t q)) 5))))) rfl k
      obtain ⟨d1, o1, ed, kc, k⟩ := lz_c (g := 139) (q := 1) (vs := [.ref B, .int (Int32.ofInt 1), .int (nI (lb_s f t q))]) (rest := []) rfl rfl (by decide) (Or.inr (Or.inl ⟨_, rfl, rfl⟩)) rfl k
      obtain ⟨hf, e1⟩ := (md_fails (a := lb_s f t q) hP hS3 hD kc).resolve_right (fun c => c.1 rfl)
      subst e1
      have hS9 := md_Sw (y := lb_c (lb_s f t q) (Int32.ofInt 1)) hP hS3
      have k : nt_rn X _ 143 (123, [(4, .int (lb_v f (lb_s f t q) (min (lb_d f t (lb_s f t q)) 5))), (3, .int (nI (lb_s f t q))), (0, .ref B), (1, .int (lo)), (2, .int (hi))], [.int (Int32.ofInt 0)], me_w M (nt_u (nt_u (nt_u J B 15 (nI (lb_s f t q + lb_d f t (lb_s f t q)))) B 17 (lb_v f (lb_s f t q) (min (lb_d f t (lb_s f t q)) 5))) B 16 (lb_c (lb_s f t q) (Int32.ofInt 1)))) _ := k
      have k := ly_revb 1 (c' := (if (Int32.ofInt 0) = 0 then 130 else 126, [(4, .int (lb_v f (lb_s f t q) (min (lb_d f t (lb_s f t q)) 5))), (3, .int (nI (lb_s f t q))), (0, .ref B), (1, .int (lo)), (2, .int (hi))], [], me_w M (nt_u (nt_u (nt_u J B 15 (nI (lb_s f t q + lb_d f t (lb_s f t q)))) B 17 (lb_v f (lb_s f t q) (min (lb_d f t (lb_s f t q)) 5))) B 16 (lb_c (lb_s f t q) (Int32.ofInt 1))))) rfl k
      rw [if_pos (show (Int32.ofInt 0) = 0 from by decide)] at k
      have k := ly_revb 1 (c' := (131, [(4, .int (lb_v f (lb_s f t q) (min (lb_d f t (lb_s f t q)) 5))), (3, .int (nI (lb_s f t q))), (0, .ref B), (1, .int (lo)), (2, .int (hi))], [.int (Int32.ofInt 0)], me_w M (nt_u (nt_u (nt_u J B 15 (nI (lb_s f t q + lb_d f t (lb_s f t q)))) B 17 (lb_v f (lb_s f t q) (min (lb_d f t (lb_s f t q)) 5))) B 16 (lb_c (lb_s f t q) (Int32.ofInt 1))))) rfl k
      have k := lz_ri rfl (by decide) k
      exact ⟨_, _, k, Or.inr (Or.inl ⟨hd0, Or.inl h101, rfl, hS9⟩)⟩
    · rw [if_neg (show ¬ ((Int32.ofInt 5) < (nI (lb_d f t (lb_s f t q)))) from show ¬ nI 5 < nI (lb_d f t (lb_s f t q)) from nI_nlt (Nat.not_lt.mp h101) (by omega))] at k
      have k := ly_revb 6 (c' := (111, [(4, .int (lb_v f (lb_s f t q) (min (lb_d f t (lb_s f t q)) 5))), (3, .int (nI (lb_s f t q))), (0, .ref B), (1, .int (lo)), (2, .int (hi))], [.long (hi.toInt64), .long (lo.toInt64), .long ((lb_v f (lb_s f t q) (min (lb_d f t (lb_s f t q)) 5)).toInt64)], me_w M (nt_u (nt_u J B 15 (nI (lb_s f t q + lb_d f t (lb_s f t q)))) B 17 (lb_v f (lb_s f t q) (min (lb_d f t (lb_s f t q)) 5))))) rfl k
      obtain ⟨d1, o1, ed, kc, k⟩ := lz_c (g := 145) (q := 0) (vs := [.long ((lb_v f (lb_s f t q) (min (lb_d f t (lb_s f t q)) 5)).toInt64), .long (lo.toInt64), .long (hi.toInt64)]) (rest := []) rfl rfl (by decide) (Or.inl ⟨_, rfl, rfl⟩) rfl k
      obtain ⟨r, e1, hi9⟩ := md_in kc
      subst e1
      rcases hi9 with ⟨rfl, hi9⟩ | ⟨rfl, hi9⟩
      · have k : nt_rn X _ 143 (114, [(4, .int (lb_v f (lb_s f t q) (min (lb_d f t (lb_s f t q)) 5))), (3, .int (nI (lb_s f t q))), (0, .ref B), (1, .int (lo)), (2, .int (hi))], [.int (Int32.ofInt 1)], me_w M (nt_u (nt_u J B 15 (nI (lb_s f t q + lb_d f t (lb_s f t q)))) B 17 (lb_v f (lb_s f t q) (min (lb_d f t (lb_s f t q)) 5)))) _ := k
        have k := ly_revb 1 (c' := (if (Int32.ofInt 1) = 0 then 117 else 126, [(4, .int (lb_v f (lb_s f t q) (min (lb_d f t (lb_s f t q)) 5))), (3, .int (nI (lb_s f t q))), (0, .ref B), (1, .int (lo)), (2, .int (hi))], [], me_w M (nt_u (nt_u J B 15 (nI (lb_s f t q + lb_d f t (lb_s f t q)))) B 17 (lb_v f (lb_s f t q) (min (lb_d f t (lb_s f t q)) 5))))) rfl k
        rw [if_neg (show ¬ ((Int32.ofInt 1) = 0) from by decide)] at k
        have k := ly_revb 2 (c' := (131, [(4, .int (lb_v f (lb_s f t q) (min (lb_d f t (lb_s f t q)) 5))), (3, .int (nI (lb_s f t q))), (0, .ref B), (1, .int (lo)), (2, .int (hi))], [.int (Int32.ofInt 1)], me_w M (nt_u (nt_u J B 15 (nI (lb_s f t q + lb_d f t (lb_s f t q)))) B 17 (lb_v f (lb_s f t q) (min (lb_d f t (lb_s f t q)) 5))))) rfl k
        have k := lz_ri rfl (by decide) k
        rw [show min (lb_d f t (lb_s f t q)) 5 = lb_d f t (lb_s f t q) from by omega] at hi9
        refine ⟨_, _, k, Or.inr (Or.inr ⟨hd0, by omega, hi9, rfl, hS3, ?_⟩)⟩
        rw [me_us, show min (lb_d f t (lb_s f t q)) 5 = lb_d f t (lb_s f t q) from by omega]
      · have k : nt_rn X _ 143 (114, [(4, .int (lb_v f (lb_s f t q) (min (lb_d f t (lb_s f t q)) 5))), (3, .int (nI (lb_s f t q))), (0, .ref B), (1, .int (lo)), (2, .int (hi))], [.int (Int32.ofInt 0)], me_w M (nt_u (nt_u J B 15 (nI (lb_s f t q + lb_d f t (lb_s f t q)))) B 17 (lb_v f (lb_s f t q) (min (lb_d f t (lb_s f t q)) 5)))) _ := k
        have k := ly_revb 1 (c' := (if (Int32.ofInt 0) = 0 then 117 else 126, [(4, .int (lb_v f (lb_s f t q) (min (lb_d f t (lb_s f t q)) 5))), (3, .int (nI (lb_s f t q))), (0, .ref B), (1, .int (lo)), (2, .int (hi))], [], me_w M (nt_u (nt_u J B 15 (nI (lb_s f t q + lb_d f t (lb_s f t q)))) B 17 (lb_v f (lb_s f t q) (min (lb_d f t (lb_s f t q)) 5))))) rfl k
        rw [if_pos (show (Int32.ofInt 0) = 0 from by decide)] at k
        have k := ly_revb 3 (c' := (120, [(4, .int (lb_v f (lb_s f t q) (min (lb_d f t (lb_s f t q)) 5))), (3, .int (nI (lb_s f t q))), (0, .ref B), (1, .int (lo)), (2, .int (hi))], [.int (nI (lb_s f t q)), .int (Int32.ofInt 1), .ref B], me_w M (nt_u (nt_u J B 15 (nI (lb_s f t q + lb_d f t (lb_s f t q)))) B 17 (lb_v f (lb_s f t q) (min (lb_d f t (lb_s f t q)) 5))))) rfl k
        obtain ⟨d1, o1, ed, kc, k⟩ := lz_c (g := 139) (q := 1) (vs := [.ref B, .int (Int32.ofInt 1), .int (nI (lb_s f t q))]) (rest := []) rfl rfl (by decide) (Or.inr (Or.inl ⟨_, rfl, rfl⟩)) rfl k
        obtain ⟨hf, e1⟩ := (md_fails (a := lb_s f t q) hP hS3 hD kc).resolve_right (fun c => c.1 rfl)
        subst e1
        have hS9 := md_Sw (y := lb_c (lb_s f t q) (Int32.ofInt 1)) hP hS3
        have k : nt_rn X _ 143 (123, [(4, .int (lb_v f (lb_s f t q) (min (lb_d f t (lb_s f t q)) 5))), (3, .int (nI (lb_s f t q))), (0, .ref B), (1, .int (lo)), (2, .int (hi))], [.int (Int32.ofInt 0)], me_w M (nt_u (nt_u (nt_u J B 15 (nI (lb_s f t q + lb_d f t (lb_s f t q)))) B 17 (lb_v f (lb_s f t q) (min (lb_d f t (lb_s f t q)) 5))) B 16 (lb_c (lb_s f t q) (Int32.ofInt 1)))) _ := k
        have k := ly_revb 1 (c' := (if (Int32.ofInt 0) = 0 then 130 else 126, [(4, .int (lb_v f (lb_s f t q) (min (lb_d f t (lb_s f t q)) 5))), (3, .int (nI (lb_s f t q))), (0, .ref B), (1, .int (lo)), (2, .int (hi))], [], me_w M (nt_u (nt_u (nt_u J B 15 (nI (lb_s f t q + lb_d f t (lb_s f t q)))) B 17 (lb_v f (lb_s f t q) (min (lb_d f t (lb_s f t q)) 5))) B 16 (lb_c (lb_s f t q) (Int32.ofInt 1))))) rfl k
        rw [if_pos (show (Int32.ofInt 0) = 0 from by decide)] at k
        have k := ly_revb 1 (c' := (131, [(4, .int (lb_v f (lb_s f t q) (min (lb_d f t (lb_s f t q)) 5))), (3, .int (nI (lb_s f t q))), (0, .ref B), (1, .int (lo)), (2, .int (hi))], [.int (Int32.ofInt 0)], me_w M (nt_u (nt_u (nt_u J B 15 (nI (lb_s f t q + lb_d f t (lb_s f t q)))) B 17 (lb_v f (lb_s f t q) (min (lb_d f t (lb_s f t q)) 5))) B 16 (lb_c (lb_s f t q) (Int32.ofInt 1))))) rfl k
        have k := lz_ri rfl (by decide) k
        rw [show min (lb_d f t (lb_s f t q)) 5 = lb_d f t (lb_s f t q) from by omega] at hi9
        exact ⟨_, _, k, Or.inr (Or.inl ⟨hd0, Or.inr hi9, rfl, hS9⟩)⟩
  · have k : nt_rn X _ 143 (13, [(0, .ref B), (1, .int (lo)), (2, .int (hi))], [.int (Int32.ofInt 0)], me_w M (nt_u J B 15 (nI (lb_s f t q)))) _ := k
    have k := ly_revb 1 (c' := (if (Int32.ofInt 0) = 0 then 16 else 26, [(0, .ref B), (1, .int (lo)), (2, .int (hi))], [], me_w M (nt_u J B 15 (nI (lb_s f t q))))) rfl k
    rw [if_pos (show (Int32.ofInt 0) = 0 from by decide)] at k
    have k := ly_revb 3 (c' := (19, [(0, .ref B), (1, .int (lo)), (2, .int (hi))], [.ref B, .int (Int32.ofInt 0), .ref B], me_w M (nt_u J B 15 (nI (lb_s f t q))))) rfl k
    have k := lz_get (a := B) (g := 1115) (M := me_w M (nt_u J B 15 (nI (lb_s f t q)))) (v := .int (nI (lb_s f t q))) rfl (congrArg Value.int (hS1.1)) k
    obtain ⟨d1, o1, ed, kc, k⟩ := lz_c (g := 139) (q := 1) (vs := [.ref B, .int (Int32.ofInt 0), .int (nI (lb_s f t q))]) (rest := []) rfl rfl (by decide) (Or.inr (Or.inl ⟨_, rfl, rfl⟩)) rfl k
    obtain ⟨hf, e1⟩ := (md_fails (a := lb_s f t q) hP hS1 hp1 kc).resolve_right (fun c => c.1 rfl)
    subst e1
    have hS9 := md_Sw (y := lb_c (lb_s f t q) (Int32.ofInt 0)) hP hS1
    have k : nt_rn X _ 143 (25, [(0, .ref B), (1, .int (lo)), (2, .int (hi))], [.int (Int32.ofInt 0)], me_w M (nt_u (nt_u J B 15 (nI (lb_s f t q))) B 16 (lb_c (lb_s f t q) (Int32.ofInt 0)))) _ := k
    have k := lz_ri rfl (by decide) k
    exact ⟨_, _, k, Or.inl ⟨lb_d0 hr, rfl, hS9⟩⟩
end
section
/-! a value, the other side -/
theorem lb_d_all {f : Nat → Int32} {t : Nat} : ∀ (n p : Nat), lb_d f t p = n → ∀ i, i < n → lb_dig f t (p + i) := by
  intro n
  induction n with
  | zero => intro p h i hi; omega
  | succ n ih =>
    intro p h i hi
    obtain ⟨a, b⟩ := lb_d_dig h
    by_cases c : i = 0
    · rw [c]; exact a
    · have q := ih (p + 1) b (i - 1) (by omega)
      rw [show p + 1 + (i - 1) = p + i from by omega] at q
      exact q
theorem lb_v_s {v c : Int32} {X : Nat} (hv : v = nI X) (hX : X < 100000) (h0 : 48 ≤ c.toInt) (h1 : c.toInt ≤ 57) : v * Int32.ofInt 10 + c - Int32.ofInt 48 = nI (X * 10 + (c.toInt.toNat - 48)) := by
  have ec : c = nI c.toInt.toNat := by
    apply Int32.toInt_inj.mp
    rw [nI_toInt (by omega)]
    omega
  have e10 : v * Int32.ofInt 10 = nI (X * 10) := by
    rw [hv]
    exact (Int32.ofNat_mul X 10).symm
  rw [e10]
  have e2 : nI (X * 10) + c = nI (X * 10 + c.toInt.toNat) := by
    rw [← me_addn, ← ec]
  rw [e2]
  have e3 : nI (X * 10 + c.toInt.toNat) - nI 48 = nI (X * 10 + c.toInt.toNat - 48) := me_subn (by omega)
  rw [show Int32.ofInt 48 = nI 48 from rfl, e3]
  congr 1
  omega
theorem lb_v_b {f : Nat → Int32} {t p : Nat} : ∀ n, n ≤ 5 → (∀ i, i < n → lb_dig f t (p + i)) → ∃ X, lb_v f p n = nI X ∧ X < 10 ^ n := by
  intro n
  induction n with
  | zero => intro _ _; exact ⟨0, rfl, by decide⟩
  | succ n ih =>
    intro hn h
    obtain ⟨X, a, b⟩ := ih (by omega) (fun i hi => h i (by omega))
    have c := h n (by omega)
    have c1 : (48 : Int) ≤ (f (p + n)).toInt := Int32.le_iff_toInt_le.mp c.2.1
    have c2 : (f (p + n)).toInt ≤ 57 := Int32.le_iff_toInt_le.mp c.2.2
    have hb : (10 : Nat) ^ n ≤ 10 ^ 4 := Nat.pow_le_pow_right (by decide) (by omega)
    have hb2 : (10 : Nat) ^ 4 = 10000 := by decide
    refine ⟨X * 10 + ((f (p + n)).toInt.toNat - 48), lb_v_s a (by omega) c1 c2, ?_⟩
    rw [Nat.pow_succ]
    omega
theorem lb_v_in {f : Nat → Int32} {t p : Nat} (h : lb_d f t p ≤ 5) : (Int32.ofInt 0).toInt ≤ (lb_v f p (lb_d f t p)).toInt ∧ (lb_v f p (lb_d f t p)).toInt ≤ (Int32.ofInt 99999).toInt := by
  obtain ⟨X, a, b⟩ := lb_v_b (lb_d f t p) h (lb_d_all _ p rfl)
  have hb : (10 : Nat) ^ (lb_d f t p) ≤ 10 ^ 5 := Nat.pow_le_pow_right (by decide) h
  have hb2 : (10 : Nat) ^ 5 = 100000 := by decide
  rw [a, nI_toInt (by omega)]
  have e0 : (Int32.ofInt 0).toInt = 0 := by decide
  have e9 : (Int32.ofInt 99999).toInt = 99999 := by decide
  rw [e0, e9]
  omega
theorem lb_W_lets : nt_SB.all (fun l => l.all (fun c => decide (Int32.ofInt 97 ≤ c ∧ c ≤ Int32.ofInt 122))) = true := by decide +kernel
theorem lb_at_l {f : Nat → Int32} {t p a : Nat} (h : lb_at f t (lb_W a) p) : lb_l f t p = (lb_W a).length := by
  refine lb_l_eq _ p (fun i hi => ?_) h.2.2
  have h1 := h.1
  refine ⟨by omega, ?_⟩
  rw [h.2.1 i hi]
  have hm : lb_W a ∈ nt_SB := by
    unfold lb_W at hi ⊢
    rw [List.getD_eq_getElem?_getD] at hi ⊢
    cases hc : nt_SB[nt_si a]? with
    | none => rw [hc] at hi; exact absurd hi (Nat.not_lt_zero _)
    | some l => exact List.mem_of_getElem? hc
  have q := List.all_eq_true.mp lb_W_lets _ hm
  have q2 := List.all_eq_true.mp q ((lb_W a).getD i 0) (by rw [List.getD_eq_getElem?_getD, List.getElem?_eq_getElem hi]; exact List.getElem_mem hi)
  exact of_decide_eq_true q2
def md_Q (J0 : Nat → Nat → Int32) (B Sg Ln x t : Nat) (f : Nat → Int32) (r : lb_Y) (a : Int32) (J : Nat → Nat → Int32) : Prop := match r with
  | .inl c => c ≠ 0 ∧ a = Int32.ofInt 0 ∧ ∃ q m e, md_S J0 B Sg Ln x q c m e J ∧ q ≤ t
  | .inr z => a = Int32.ofInt 1 ∧ ∃ q, lb_s f t q = z.1 ∧ q ≤ t ∧ md_S J0 B Sg Ln x q 0 z.2.1 z.2.2.2 J
theorem md_value {X : nt_X} {d t x B Tb Sg Ln q m : Nat} {f : Nat → Int32} {M : nt_M} {J0 J : Nat → Nat → Int32} {o : Option Value × nt_M} {e : Nat × (Nat → Int32)} {s0 : Nat × (Nat → Int32)} (hP : md_P M J0 f t x B Tb Sg Ln) (hS : md_S J0 B Sg Ln x q 0 m e J) (hp : q ≤ t) (k : nt_ev X d 153 [.ref B] (me_w M J) o) : ∃ r a J', o = (some (.int a), me_w M J') ∧ lb_val f t (lb_s f t q, m, (s0, e)) r ∧ md_Q J0 B Sg Ln x t f r a J' := by
  have k : nt_rn X d 153 (0, [(0, .ref B)], [], me_w M J) o := k
  have t4 : t ≤ 400 := hP.2.2.2.2.2.1
  have hD : lb_s f t q + lb_d f t (lb_s f t q) ≤ t := by
    have := (lb_s_le (f := f) (t := t) (t - q) q (by omega)).2
    exact lb_d_le (t - lb_s f t q) (lb_s f t q) (by omega)
  have hss : lb_s f t (lb_s f t q) = lb_s f t q := lb_ss hp
  have m6 : m ≤ 60 := hS.2.2.2.2.2.2.2.2
  have k := ly_revb 1 (c' := (1, [(0, .ref B)], [.ref B], me_w M J)) rfl k
  obtain ⟨d1, o1, ed, kc, k⟩ := lz_c (g := 136) (q := 1) (vs := [.ref B]) (rest := []) rfl rfl (by decide) (Or.inr (Or.inl ⟨_, rfl, rfl⟩)) rfl k
  have e1 := md_see hP hS hp kc
  subst e1
  have hS1 := md_Sq (y := lb_s f t q) hP hS
  have hp1 : lb_s f t q ≤ t := (lb_s_le (t - q) q (by omega)).2
  have k : nt_rn X _ 153 (4, [(0, .ref B)], [.int (lb_g f t (lb_s f t q))], me_w M (nt_u J B 15 (nI (lb_s f t q)))) _ := k
  have k := ly_revb 2 (c' := (6, [(0, .ref B)], [.ref B], me_w M (nt_u J B 15 (nI (lb_s f t q))))) rfl k
  have k := lz_get (a := B) (g := 1115) (M := me_w M (nt_u J B 15 (nI (lb_s f t q)))) (v := .int (nI (lb_s f t q))) rfl (congrArg Value.int (hS1.1)) k
  have k := ly_revb 3 (c' := (12, [(1, .int (nI (lb_s f t q))), (0, .ref B)], [.ref B, .ref B], me_w M (nt_u J B 15 (nI (lb_s f t q))))) rfl k
  have k := lz_get (a := B) (g := 1115) (M := me_w M (nt_u J B 15 (nI (lb_s f t q)))) (v := .int (nI (lb_s f t q))) rfl (congrArg Value.int (hS1.1)) k
  obtain ⟨d1, o1, ed, kc, k⟩ := lz_c (g := 144) (q := 1) (vs := [.ref B, .int (nI (lb_s f t q))]) (rest := []) rfl rfl (by decide) (Or.inr (Or.inl ⟨_, rfl, rfl⟩)) rfl k
  obtain ⟨r, e1, hr⟩ := md_isDigit hP hS1 hp1 (by omega) kc
  subst e1
  rcases hr with ⟨rfl, hr⟩ | ⟨rfl, hr⟩
  · have k : nt_rn X _ 153 (18, [(1, .int (nI (lb_s f t q))), (0, .ref B)], [.int (Int32.ofInt 1)], me_w M (nt_u J B 15 (nI (lb_s f t q)))) _ := k
    have k := ly_revb 1 (c' := (if (Int32.ofInt 1) = 0 then 52 else 21, [(1, .int (nI (lb_s f t q))), (0, .ref B)], [], me_w M (nt_u J B 15 (nI (lb_s f t q))))) rfl k
    rw [if_neg (show ¬ ((Int32.ofInt 1) = 0) from by decide)] at k
    have k := ly_revb 3 (c' := (25, [(1, .int (nI (lb_s f t q))), (0, .ref B)], [.int (Int32.ofInt 99999), .int (Int32.ofInt 0), .ref B], me_w M (nt_u J B 15 (nI (lb_s f t q))))) rfl k
    obtain ⟨d1, o1, ed, kc, k⟩ := lz_c (g := 143) (q := 1) (vs := [.ref B, .int (Int32.ofInt 0), .int (Int32.ofInt 99999)]) (rest := []) rfl rfl (by decide) (Or.inr (Or.inl ⟨_, rfl, rfl⟩)) rfl k
    obtain ⟨r, J5, e1, hn⟩ := md_num hP hS1 hp1 kc
    rw [hss] at hn
    subst e1
    rcases hn with ⟨h0, _⟩ | ⟨hd0, hbad, rfl, hS5⟩ | ⟨hd0, hd5, hin, rfl, hS5, h17⟩
    · rw [lb_d1 hr] at h0
      omega
    · have k : nt_rn X _ 153 (28, [(1, .int (nI (lb_s f t q))), (0, .ref B)], [.int (Int32.ofInt 0)], me_w M J5) _ := k
      have k := ly_revb 1 (c' := (if (Int32.ofInt 0) = 0 then 39 else 31, [(1, .int (nI (lb_s f t q))), (0, .ref B)], [], me_w M J5)) rfl k
      rw [if_pos (show (Int32.ofInt 0) = 0 from by decide)] at k
      have k := ly_revb 1 (c' := (40, [(1, .int (nI (lb_s f t q))), (0, .ref B)], [.int (Int32.ofInt 0)], me_w M J5)) rfl k
      have k := lz_ri rfl (by decide) k
      refine ⟨.inl (lb_c (lb_s f t q) (Int32.ofInt 1)), _, _, k, ?_, (lb_c_ne (by omega) (by decide) (by decide)), rfl, _, _, _, hS5, hD⟩
      unfold lb_val
      dsimp only
      exact Or.inl ⟨Classical.byContradiction (fun c => hbad.elim c (fun c2 => c2 (lb_v_in (by omega)))), rfl⟩
    · have k : nt_rn X _ 153 (28, [(1, .int (nI (lb_s f t q))), (0, .ref B)], [.int (Int32.ofInt 1)], me_w M J5) _ := k
      have k := ly_revb 1 (c' := (if (Int32.ofInt 1) = 0 then 39 else 31, [(1, .int (nI (lb_s f t q))), (0, .ref B)], [], me_w M J5)) rfl k
      rw [if_neg (show ¬ ((Int32.ofInt 1) = 0) from by decide)] at k
      have k := ly_revb 2 (c' := (33, [(1, .int (nI (lb_s f t q))), (0, .ref B)], [.int (nI (lb_s f t q)), .ref B], me_w M J5)) rfl k
      obtain ⟨d1, o1, ed, kc, k⟩ := lz_c (g := 154) (q := 1) (vs := [.ref B, .int (nI (lb_s f t q))]) (rest := []) rfl rfl (by decide) (Or.inr (Or.inl ⟨_, rfl, rfl⟩)) rfl k
      rcases md_makes (a := lb_s f t q) hP hS5 hD rfl kc with ⟨hm, e1⟩ | ⟨hm, e1⟩
      · subst e1
        have hS6 := md_Sw (y := lb_c (lb_s f t q) (Int32.ofInt 3)) hP hS5
        have k : nt_rn X _ 153 (36, [(1, .int (nI (lb_s f t q))), (0, .ref B)], [.int (Int32.ofInt 0)], me_w M (nt_u J5 B 16 (lb_c (lb_s f t q) (Int32.ofInt 3)))) _ := k
        have k := ly_revb 1 (c' := (if (Int32.ofInt 0) = 0 then 39 else 41, [(1, .int (nI (lb_s f t q))), (0, .ref B)], [], me_w M (nt_u J5 B 16 (lb_c (lb_s f t q) (Int32.ofInt 3))))) rfl k
        rw [if_pos (show (Int32.ofInt 0) = 0 from by decide)] at k
        have k := ly_revb 1 (c' := (40, [(1, .int (nI (lb_s f t q))), (0, .ref B)], [.int (Int32.ofInt 0)], me_w M (nt_u J5 B 16 (lb_c (lb_s f t q) (Int32.ofInt 3))))) rfl k
        have k := lz_ri rfl (by decide) k
        refine ⟨.inl (lb_c (lb_s f t q) (Int32.ofInt 3)), _, _, k, ?_, (lb_c_ne (by omega) (by decide) (by decide)), rfl, _, _, _, hS6, hD⟩
        unfold lb_val
        dsimp only
        exact Or.inr (Or.inl ⟨hd0, hd5, hm, rfl⟩)
      · subst e1
        have hS6 := md_Sm (y := m + 1) hP hS5 (by omega)
        have k : nt_rn X _ 153 (36, [(1, .int (nI (lb_s f t q))), (0, .ref B)], [.int (Int32.ofInt 1)], me_w M (nt_u J5 B 19 (nI (m + 1)))) _ := k
        have k := ly_revb 1 (c' := (if (Int32.ofInt 1) = 0 then 39 else 41, [(1, .int (nI (lb_s f t q))), (0, .ref B)], [], me_w M (nt_u J5 B 19 (nI (m + 1))))) rfl k
        rw [if_neg (show ¬ ((Int32.ofInt 1) = 0) from by decide)] at k
        have k := ly_revb 3 (c' := (44, [(1, .int (nI (lb_s f t q))), (0, .ref B)], [.ref B, .int (Int32.ofInt 0), .ref B], me_w M (nt_u J5 B 19 (nI (m + 1))))) rfl k
        have k := lz_get (a := B) (g := 1117) (M := me_w M (nt_u J5 B 19 (nI (m + 1)))) (v := .int (lb_v f (lb_s f t q) (lb_d f t (lb_s f t q)))) rfl (congrArg Value.int ((me_uk (by decide)).trans h17)) k
        obtain ⟨d1, o1, ed, kc, k⟩ := lz_c (g := 155) (q := 1) (vs := [.ref B, .int (Int32.ofInt 0), .int (lb_v f (lb_s f t q) (lb_d f t (lb_s f t q)))]) (rest := []) rfl rfl (by decide) (Or.inr (Or.inl ⟨_, rfl, rfl⟩)) rfl k
        obtain ⟨hb, e1⟩ := md_puts hP hS6 hD kc
        subst e1
        have hS8 := md_Se (y := (Int32.ofInt 0) + Int32.ofInt 16 * (lb_v f (lb_s f t q) (lb_d f t (lb_s f t q)))) hP hS6 hb
        have k : nt_rn X _ 153 (50, [(1, .int (nI (lb_s f t q))), (0, .ref B)], [], me_w M (nt_u (nt_u (nt_u J5 B 19 (nI (m + 1))) Sg (400 * x + e.1) ((Int32.ofInt 0) + Int32.ofInt 16 * (lb_v f (lb_s f t q) (lb_d f t (lb_s f t q))))) Ln x (nI (e.1 + 1)))) _ := k
        have k := ly_revb 1 (c' := (51, [(1, .int (nI (lb_s f t q))), (0, .ref B)], [.int (Int32.ofInt 1)], me_w M (nt_u (nt_u (nt_u J5 B 19 (nI (m + 1))) Sg (400 * x + e.1) ((Int32.ofInt 0) + Int32.ofInt 16 * (lb_v f (lb_s f t q) (lb_d f t (lb_s f t q))))) Ln x (nI (e.1 + 1))))) rfl k
        have k := lz_ri rfl (by decide) k
        refine ⟨.inr (lb_s f t (lb_s f t q + lb_d f t (lb_s f t q)), m + 1, lb_em (s0, e) (Int32.ofInt 100 + lb_v f (lb_s f t q) (lb_d f t (lb_s f t q))) (Int32.ofInt 0 + Int32.ofInt 16 * lb_v f (lb_s f t q) (lb_d f t (lb_s f t q)))), _, _, k, ?_, ?_⟩
        · unfold lb_val
          dsimp only
          exact Or.inr (Or.inr (Or.inl ⟨hd0, hd5, hm, rfl⟩))
        · unfold md_Q lb_em
          dsimp only
          exact ⟨rfl, lb_s f t q + lb_d f t (lb_s f t q), rfl, hD, hS8⟩
  · have k : nt_rn X _ 153 (18, [(1, .int (nI (lb_s f t q))), (0, .ref B)], [.int (Int32.ofInt 0)], me_w M (nt_u J B 15 (nI (lb_s f t q)))) _ := k
    have k := ly_revb 1 (c' := (if (Int32.ofInt 0) = 0 then 52 else 21, [(1, .int (nI (lb_s f t q))), (0, .ref B)], [], me_w M (nt_u J B 15 (nI (lb_s f t q))))) rfl k
    rw [if_pos (show (Int32.ofInt 0) = 0 from by decide)] at k
    have k := ly_revb 1 (c' := (53, [(1, .int (nI (lb_s f t q))), (0, .ref B)], [.ref B], me_w M (nt_u J B 15 (nI (lb_s f t q))))) rfl k
    obtain ⟨d1, o1, ed, kc, k⟩ := lz_c (g := 156) (q := 1) (vs := [.ref B]) (rest := []) rfl rfl (by decide) (Or.inr (Or.inl ⟨_, rfl, rfl⟩)) rfl k
    obtain ⟨r, e1, hw⟩ := md_wordHere hP hS1 hp1 kc
    rw [hss] at hw
    rw [hss, me_uu] at e1
    subst e1
    rcases hw with ⟨w, hw, e1, hat, hbe⟩ | ⟨e1, hno⟩
    · subst e1
      have k : nt_rn X _ 153 (56, [(1, .int (nI (lb_s f t q))), (0, .ref B)], [.int (nI w)], me_w M (nt_u J B 15 (nI (lb_s f t q)))) _ := k
      have k := ly_revb 3 (c' := (if 0 ≤ (nI w) then 68 else 61, [(2, .int (nI w)), (1, .int (nI (lb_s f t q))), (0, .ref B)], [], me_w M (nt_u J B 15 (nI (lb_s f t q))))) rfl k
      rw [if_pos (show 0 ≤ (nI w) from nI_pos' (by omega))] at k
      have k := ly_revb 2 (c' := (70, [(2, .int (nI w)), (1, .int (nI (lb_s f t q))), (0, .ref B)], [.int (nI (lb_s f t q)), .ref B], me_w M (nt_u J B 15 (nI (lb_s f t q))))) rfl k
      obtain ⟨d1, o1, ed, kc, k⟩ := lz_c (g := 154) (q := 1) (vs := [.ref B, .int (nI (lb_s f t q))]) (rest := []) rfl rfl (by decide) (Or.inr (Or.inl ⟨_, rfl, rfl⟩)) rfl k
      rcases md_makes (a := lb_s f t q) hP hS1 hp1 rfl kc with ⟨hm, e1⟩ | ⟨hm, e1⟩
      · subst e1
        have hS6 := md_Sw (y := lb_c (lb_s f t q) (Int32.ofInt 3)) hP hS1
        have k : nt_rn X _ 153 (73, [(2, .int (nI w)), (1, .int (nI (lb_s f t q))), (0, .ref B)], [.int (Int32.ofInt 0)], me_w M (nt_u (nt_u J B 15 (nI (lb_s f t q))) B 16 (lb_c (lb_s f t q) (Int32.ofInt 3)))) _ := k
        have k := ly_revb 1 (c' := (if (Int32.ofInt 0) = 0 then 76 else 78, [(2, .int (nI w)), (1, .int (nI (lb_s f t q))), (0, .ref B)], [], me_w M (nt_u (nt_u J B 15 (nI (lb_s f t q))) B 16 (lb_c (lb_s f t q) (Int32.ofInt 3))))) rfl k
        rw [if_pos (show (Int32.ofInt 0) = 0 from by decide)] at k
        have k := ly_revb 1 (c' := (77, [(2, .int (nI w)), (1, .int (nI (lb_s f t q))), (0, .ref B)], [.int (Int32.ofInt 0)], me_w M (nt_u (nt_u J B 15 (nI (lb_s f t q))) B 16 (lb_c (lb_s f t q) (Int32.ofInt 3))))) rfl k
        have k := lz_ri rfl (by decide) k
        refine ⟨.inl (lb_c (lb_s f t q) (Int32.ofInt 3)), _, _, k, ?_, (lb_c_ne (by omega) (by decide) (by decide)), rfl, _, _, _, hS6, hp1⟩
        unfold lb_val
        dsimp only
        exact Or.inr (Or.inr (Or.inr (Or.inr ⟨lb_d0 hr, w, hw, hat, hbe, Or.inl ⟨hm, rfl⟩⟩)))
      · subst e1
        have hS6 := md_Sm (y := m + 1) hP hS1 (by omega)
        have k : nt_rn X _ 153 (73, [(2, .int (nI w)), (1, .int (nI (lb_s f t q))), (0, .ref B)], [.int (Int32.ofInt 1)], me_w M (nt_u (nt_u J B 15 (nI (lb_s f t q))) B 19 (nI (m + 1)))) _ := k
        have k := ly_revb 1 (c' := (if (Int32.ofInt 1) = 0 then 76 else 78, [(2, .int (nI w)), (1, .int (nI (lb_s f t q))), (0, .ref B)], [], me_w M (nt_u (nt_u J B 15 (nI (lb_s f t q))) B 19 (nI (m + 1))))) rfl k
        rw [if_neg (show ¬ ((Int32.ofInt 1) = 0) from by decide)] at k
        have k := ly_revb 1 (c' := (79, [(2, .int (nI w)), (1, .int (nI (lb_s f t q))), (0, .ref B)], [.ref B], me_w M (nt_u (nt_u J B 15 (nI (lb_s f t q))) B 19 (nI (m + 1))))) rfl k
        obtain ⟨d1, o1, ed, kc, k⟩ := lz_c (g := 142) (q := 1) (vs := [.ref B]) (rest := []) rfl rfl (by decide) (Or.inr (Or.inl ⟨_, rfl, rfl⟩)) rfl k
        have e1 := md_pass hP hS6 hp1 kc
        rw [lb_at_l hat] at e1
        subst e1
        have hS7 := md_Sq (y := lb_s f t q + (lb_W (lb_wd w)).length) hP hS6
        have hpw : lb_s f t q + (lb_W (lb_wd w)).length ≤ t := hat.1
        have k : nt_rn X _ 153 (82, [(2, .int (nI w)), (1, .int (nI (lb_s f t q))), (0, .ref B)], [], me_w M (nt_u (nt_u (nt_u J B 15 (nI (lb_s f t q))) B 19 (nI (m + 1))) B 15 (nI (lb_s f t q + (lb_W (lb_wd w)).length)))) _ := k
        have k := ly_revb 3 (c' := (85, [(2, .int (nI w)), (1, .int (nI (lb_s f t q))), (0, .ref B)], [.int (nI w), .int (Int32.ofInt 1), .ref B], me_w M (nt_u (nt_u (nt_u J B 15 (nI (lb_s f t q))) B 19 (nI (m + 1))) B 15 (nI (lb_s f t q + (lb_W (lb_wd w)).length))))) rfl k
        obtain ⟨d1, o1, ed, kc, k⟩ := lz_c (g := 155) (q := 1) (vs := [.ref B, .int (Int32.ofInt 1), .int (nI w)]) (rest := []) rfl rfl (by decide) (Or.inr (Or.inl ⟨_, rfl, rfl⟩)) rfl k
        obtain ⟨hb, e1⟩ := md_puts hP hS7 hpw kc
        subst e1
        have hS8 := md_Se (y := (Int32.ofInt 1) + Int32.ofInt 16 * (nI w)) hP hS7 hb
        have k : nt_rn X _ 153 (88, [(2, .int (nI w)), (1, .int (nI (lb_s f t q))), (0, .ref B)], [], me_w M (nt_u (nt_u (nt_u (nt_u (nt_u J B 15 (nI (lb_s f t q))) B 19 (nI (m + 1))) B 15 (nI (lb_s f t q + (lb_W (lb_wd w)).length))) Sg (400 * x + e.1) ((Int32.ofInt 1) + Int32.ofInt 16 * (nI w))) Ln x (nI (e.1 + 1)))) _ := k
        have k := ly_revb 1 (c' := (89, [(2, .int (nI w)), (1, .int (nI (lb_s f t q))), (0, .ref B)], [.int (Int32.ofInt 1)], me_w M (nt_u (nt_u (nt_u (nt_u (nt_u J B 15 (nI (lb_s f t q))) B 19 (nI (m + 1))) B 15 (nI (lb_s f t q + (lb_W (lb_wd w)).length))) Sg (400 * x + e.1) ((Int32.ofInt 1) + Int32.ofInt 16 * (nI w))) Ln x (nI (e.1 + 1))))) rfl k
        have k := lz_ri rfl (by decide) k
        refine ⟨.inr (lb_s f t (lb_s f t q + (lb_W (lb_wd w)).length), m + 1, lb_em (s0, e) (nI w) (Int32.ofInt 1 + Int32.ofInt 16 * nI w)), _, _, k, ?_, ?_⟩
        · unfold lb_val
          dsimp only
          exact Or.inr (Or.inr (Or.inr (Or.inr ⟨lb_d0 hr, w, hw, hat, hbe, Or.inr ⟨hm, rfl⟩⟩)))
        · unfold md_Q lb_em
          dsimp only
          exact ⟨rfl, lb_s f t q + (lb_W (lb_wd w)).length, rfl, hpw, hS8⟩
    · subst e1
      have k : nt_rn X _ 153 (56, [(1, .int (nI (lb_s f t q))), (0, .ref B)], [.int (Int32.ofInt (-1))], me_w M (nt_u J B 15 (nI (lb_s f t q)))) _ := k
      have k := ly_revb 3 (c' := (if 0 ≤ (Int32.ofInt (-1)) then 68 else 61, [(2, .int (Int32.ofInt (-1))), (1, .int (nI (lb_s f t q))), (0, .ref B)], [], me_w M (nt_u J B 15 (nI (lb_s f t q))))) rfl k
      rw [if_neg (show ¬ (0 ≤ (Int32.ofInt (-1))) from by decide)] at k
      have k := ly_revb 3 (c' := (64, [(2, .int (Int32.ofInt (-1))), (1, .int (nI (lb_s f t q))), (0, .ref B)], [.int (nI (lb_s f t q)), .int (Int32.ofInt 0), .ref B], me_w M (nt_u J B 15 (nI (lb_s f t q))))) rfl k
      obtain ⟨d1, o1, ed, kc, k⟩ := lz_c (g := 139) (q := 1) (vs := [.ref B, .int (Int32.ofInt 0), .int (nI (lb_s f t q))]) (rest := []) rfl rfl (by decide) (Or.inr (Or.inl ⟨_, rfl, rfl⟩)) rfl k
      obtain ⟨hf, e1⟩ := (md_fails (a := lb_s f t q) hP hS1 hp1 kc).resolve_right (fun c => c.1 rfl)
      subst e1
      have hS9 := md_Sw (y := lb_c (lb_s f t q) (Int32.ofInt 0)) hP hS1
      have k : nt_rn X _ 153 (67, [(2, .int (Int32.ofInt (-1))), (1, .int (nI (lb_s f t q))), (0, .ref B)], [.int (Int32.ofInt 0)], me_w M (nt_u (nt_u J B 15 (nI (lb_s f t q))) B 16 (lb_c (lb_s f t q) (Int32.ofInt 0)))) _ := k
      have k := lz_ri rfl (by decide) k
      refine ⟨.inl (lb_c (lb_s f t q) (Int32.ofInt 0)), _, _, k, ?_, (lb_c_ne (by omega) (by decide) (by decide)), rfl, _, _, _, hS9, hp1⟩
      unfold lb_val
      dsimp only
      exact Or.inr (Or.inr (Or.inr (Or.inl ⟨lb_d0 hr, hno, rfl⟩)))
end
section
/-! one result -/
theorem lb_val_det {f : Nat → Int32} {t : Nat} {z : lb_Z} {r r' : lb_Y} (h : lb_val f t z r) (h' : lb_val f t z r') : r = r' := by
  unfold lb_val at h h'
  rcases h with ⟨a, h⟩ | ⟨a, b, c, h⟩ | ⟨a, b, c, h⟩ | ⟨a, b, h⟩ | ⟨a, w, hw, hat, hbe, h⟩ <;> rcases h' with ⟨a', h'⟩ | ⟨a', b', c', h'⟩ | ⟨a', b', c', h'⟩ | ⟨a', b', h'⟩ | ⟨a', w', hw', hat', hbe', h'⟩
  all_goals first
    | (rw [h, h']; done)
    | (exfalso; omega)
    | skip
  · exact absurd hat' (b w' hw')
  · exact absurd hat (b' w hw)
  · have e : w = w' := by
      rcases Nat.lt_trichotomy w w' with q | q | q
      · exact absurd hat (hbe' w q)
      · exact q
      · exact absurd hat' (hbe w' q)
    subst e
    rcases h with ⟨c, h⟩ | ⟨c, h⟩ <;> rcases h' with ⟨c', h'⟩ | ⟨c', h'⟩
    · rw [h, h']
    · omega
    · omega
    · rw [h, h']
theorem lb_sr_det {f : Nat → Int32} {t : Nat} : ∀ (k k' : Nat) (w : Int32) (z : lb_Z) (r r' : lb_Y), lb_sr f t k w z r → lb_sr f t k' w z r' → r = r' := by
  intro k
  induction k with
  | zero => intro k' w z r r' h _; exact h.elim
  | succ k ih =>
    intro k' w z r r' h h'
    cases k' with
    | zero => exact h'.elim
    | succ k' =>
      rcases h with ⟨a, h⟩ | ⟨a, r1, hv, h⟩ | ⟨a, r1, hv, h⟩ <;> rcases h' with ⟨a', h'⟩ | ⟨a', r1', hv', h'⟩ | ⟨a', r1', hv', h'⟩
      · rw [h, h']
      · rw [a] at a'; exact absurd a' (by decide)
      · rw [a] at a'; exact absurd a' (by decide)
      · rw [a'] at a; exact absurd a (by decide)
      · have e := lb_val_det hv hv'
        subst e
        rcases h with ⟨c, e1, e2⟩ | ⟨z1, e1, h⟩ <;> rcases h' with ⟨c', e1', e2'⟩ | ⟨z1', e1', h'⟩
        · rw [e2, e2']; rw [e1] at e1'; cases e1'; rfl
        · rw [e1] at e1'; cases e1'
        · rw [e1] at e1'; cases e1'
        · rw [e1] at e1'; cases e1'; exact ih _ _ _ _ _ h h'
      · rcases a with a | a <;> rw [a] at a' <;> exact absurd a' (by decide)
      · rw [a'] at a; exact absurd a (by decide)
      · rcases a with a | a <;> rw [a] at a' <;> exact absurd a' (by decide)
      · have e := lb_val_det hv hv'
        subst e
        rcases h with ⟨c, e1, e2⟩ | ⟨z1, e1, h⟩ <;> rcases h' with ⟨c', e1', e2'⟩ | ⟨z1', e1', h'⟩
        · rw [e2, e2']; rw [e1] at e1'; cases e1'; rfl
        · rw [e1] at e1'; cases e1'
        · rw [e1] at e1'; cases e1'
        · rw [e1] at e1'; cases e1'; exact ih _ _ _ _ _ h h'
theorem lb_sum_det {f : Nat → Int32} {t : Nat} {z : lb_Z} {r r' : lb_Y} (h : lb_sum f t z r) (h' : lb_sum f t z r') : r = r' := by
  obtain ⟨r1, hv, h⟩ := h
  obtain ⟨r1', hv', h'⟩ := h'
  have e := lb_val_det hv hv'
  subst e
  rcases h with ⟨c, e1, e2⟩ | ⟨z1, k, e1, h⟩ <;> rcases h' with ⟨c', e1', e2'⟩ | ⟨z1', k', e1', h'⟩
  · rw [e2, e2']; rw [e1] at e1'; cases e1'; rfl
  · rw [e1] at e1'; cases e1'
  · rw [e1] at e1'; cases e1'
  · rw [e1] at e1'; cases e1'; exact lb_sr_det _ _ _ _ _ _ h h'
end
section
/-! terms and sums, the other side -/
def lb_by (f : Nat → Int32) (t : Nat) : Prop := ∀ j, j < t → -128 ≤ (f j).toInt ∧ (f j).toInt ≤ 127
theorem lb_by_all : ∀ i : Fin 256, (Int32.ofInt ((i.val : Int) - 128) &&& Int32.ofInt 255).toInt = if 128 ≤ i.val then (i.val : Int) - 128 else (i.val : Int) + 128 := by decide +kernel
theorem lb_gb {f : Nat → Int32} {t p : Nat} (hb : lb_by f t) (hp : p < t) : (lb_g f t p).toInt = if 0 ≤ (f p).toInt then (f p).toInt else (f p).toInt + 256 := by
  obtain ⟨a, b⟩ := hb p hp
  unfold lb_g
  rw [if_pos hp]
  have q := lb_by_all ⟨((f p).toInt + 128).toNat, by omega⟩
  have e : (((⟨((f p).toInt + 128).toNat, by omega⟩ : Fin 256).val : Int) - 128) = (f p).toInt := by
    show (((f p).toInt + 128).toNat : Int) - 128 = _
    omega
  rw [e, Int32.ofInt_toInt] at q
  rw [q]
  by_cases c : 0 ≤ (f p).toInt
  · rw [if_pos c, if_pos (show 128 ≤ ((f p).toInt + 128).toNat by omega)]
  · rw [if_neg c, if_neg (show ¬ 128 ≤ ((f p).toInt + 128).toNat by omega)]
    show (((f p).toInt + 128).toNat : Int) + 128 = _
    omega
theorem lb_g1 {f : Nat → Int32} {t p : Nat} {c : Int32} (hb : lb_by f t) (hp : p < t) (h0 : 0 ≤ c.toInt) (h1 : c.toInt ≤ 127) (h : lb_g f t p = c) : f p = c := by
  have q := lb_gb hb hp
  obtain ⟨a, b⟩ := hb p hp
  rw [h] at q
  apply Int32.toInt_inj.mp
  by_cases k : 0 ≤ (f p).toInt
  · rw [if_pos k] at q
    omega
  · rw [if_neg k] at q
    omega
theorem lb_g2 {f : Nat → Int32} {t p : Nat} {c : Int32} (hb : lb_by f t) (hp : p < t) (h0 : 0 ≤ c.toInt) (h : f p = c) : lb_g f t p = c := by
  have q := lb_gb hb hp
  rw [h, if_pos h0] at q
  exact Int32.toInt_inj.mp q
theorem lb_op_i {g : Int32} : (lb_op g = Int32.ofInt 10 → g = Int32.ofInt 43) ∧ (lb_op g = Int32.ofInt 11 → g = Int32.ofInt 45) ∧ (lb_op g = Int32.ofInt 12 → g = Int32.ofInt 42) ∧ (lb_op g = Int32.ofInt 13 → g = Int32.ofInt 47) := by
  unfold lb_op
  by_cases h1 : g = Int32.ofInt 43
  · rw [if_pos h1]; exact ⟨fun _ => h1, fun c => absurd c (by decide), fun c => absurd c (by decide), fun c => absurd c (by decide)⟩
  rw [if_neg h1]
  by_cases h2 : g = Int32.ofInt 45
  · rw [if_pos h2]; exact ⟨fun c => absurd c (by decide), fun _ => h2, fun c => absurd c (by decide), fun c => absurd c (by decide)⟩
  rw [if_neg h2]
  by_cases h3 : g = Int32.ofInt 42
  · rw [if_pos h3]; exact ⟨fun c => absurd c (by decide), fun c => absurd c (by decide), fun _ => h3, fun c => absurd c (by decide)⟩
  rw [if_neg h3]
  by_cases h4 : g = Int32.ofInt 47
  · rw [if_pos h4]; exact ⟨fun c => absurd c (by decide), fun c => absurd c (by decide), fun c => absurd c (by decide), fun _ => h4⟩
  rw [if_neg h4]
  exact ⟨fun c => absurd c (by decide), fun c => absurd c (by decide), fun c => absurd c (by decide), fun c => absurd c (by decide)⟩
/-- while one of two operators stands: an R, then the operator is put -/
def lb_lp (f : Nat → Int32) (t : Nat) (R : lb_Z → lb_Y → Prop) (a b : Int32) : Nat → lb_Z → lb_Y → Prop
  | 0, _, _ => False
  | k + 1, z, r =>
    (¬ (lb_op (lb_g f t z.1) = a ∨ lb_op (lb_g f t z.1) = b) ∧ r = .inr z) ∨
    ((lb_op (lb_g f t z.1) = a ∨ lb_op (lb_g f t z.1) = b) ∧ ∃ r1, R (lb_s f t (z.1 + 1), z.2.1, z.2.2) r1 ∧ lb_th r1 r (fun z1 => lb_lp f t R a b k (z1.1, z1.2.1, lb_ew z1.2.2 (lb_op (lb_g f t z.1))) r))
def lb_te (f : Nat → Int32) (t : Nat) (z : lb_Z) (r : lb_Y) : Prop := ∃ r1, lb_val f t z r1 ∧ lb_th r1 r (fun z1 => ∃ k, lb_lp f t (lb_val f t) (Int32.ofInt 12) (Int32.ofInt 13) k z1 r)
def lb_su (f : Nat → Int32) (t : Nat) (z : lb_Z) (r : lb_Y) : Prop := ∃ r1, lb_te f t z r1 ∧ lb_th r1 r (fun z1 => ∃ k, lb_lp f t (lb_te f t) (Int32.ofInt 10) (Int32.ofInt 11) k z1 r)
theorem lb_lp_up {f : Nat → Int32} {t : Nat} {R : lb_Z → lb_Y → Prop} {a b : Int32} (ha : a ≠ Int32.ofInt (-1)) (hb : b ≠ Int32.ofInt (-1)) (hR : ∀ z z1, z.1 ≤ t → R z (.inr z1) → z.1 < z1.1 ∧ z1.1 ≤ t) : ∀ (k : Nat) (z z1 : lb_Z), z.1 ≤ t → lb_lp f t R a b k z (.inr z1) → z.1 ≤ z1.1 ∧ z1.1 ≤ t ∧ ¬ (lb_op (lb_g f t z1.1) = a ∨ lb_op (lb_g f t z1.1) = b) := by
  intro k
  induction k with
  | zero => intro z z1 _ h; exact h.elim
  | succ k ih =>
    intro z z1 hz h
    rcases h with ⟨h1, h⟩ | ⟨h1, r1, h2, h⟩
    · have e := Sum.inr.inj h
      subst e
      exact ⟨Nat.le_refl _, hz, h1⟩
    · have hlt : z.1 < t := lb_op_lt (by rcases h1 with q | q <;> (rw [q]; assumption))
      have hs := lb_s_le (f := f) (t := t) (t - (z.1 + 1)) (z.1 + 1) (by omega)
      rcases h with ⟨c, e1, e2⟩ | ⟨z2, e1, h⟩
      · cases e2
      · subst e1
        have q := hR _ _ hs.2 h2
        have i := ih (z2.1, z2.2.1, lb_ew z2.2.2 (lb_op (lb_g f t z.1))) _ q.2 h
        dsimp only at i q
        exact ⟨by omega, i.2⟩
theorem lb_te_up {f : Nat → Int32} {t : Nat} {z z1 : lb_Z} (hz : z.1 ≤ t) (h : lb_te f t z (.inr z1)) : z.1 < z1.1 ∧ z1.1 ≤ t := by
  obtain ⟨r1, hv, h⟩ := h
  rcases h with ⟨c, e1, e2⟩ | ⟨z2, e1, k, h⟩
  · cases e2
  · subst e1
    have q := lb_val_up hz hv
    have a := lb_lp_up (by decide) (by decide) (fun _ _ => lb_val_up) _ _ _ q.2 h
    exact ⟨by omega, a.2.1⟩
/-- a term's loop in a sum's -/
theorem lb_tl_sr {f : Nat → Int32} {t : Nat} {w : Int32} : ∀ (k : Nat) (z : lb_Z) (r1 r : lb_Y), lb_lp f t (lb_val f t) (Int32.ofInt 12) (Int32.ofInt 13) k z r1 → lb_th r1 r (fun z1 => ∃ j, lb_sr f t j w z1 r) → ∃ j, lb_sr f t j w z r := by
  intro k
  induction k with
  | zero => intro z r1 r h _; exact h.elim
  | succ k ih =>
    intro z r1 r h h2
    rcases h with ⟨h1, h⟩ | ⟨h1, r0, hv, h⟩
    · subst h
      rcases h2 with ⟨c, e1, e2⟩ | ⟨z1, e1, h2⟩
      · cases e1
      · cases e1
        exact h2
    · rcases h with ⟨c, e1, e2⟩ | ⟨z2, e1, h⟩
      · subst e1
        subst e2
        rcases h2 with ⟨c2, e1, e2⟩ | ⟨z1, e1, h2⟩
        · cases e1
          exact ⟨1, Or.inr (Or.inl ⟨h1, _, hv, Or.inl ⟨c, rfl, e2⟩⟩)⟩
        · cases e1
      · obtain ⟨j, q⟩ := ih _ _ _ h h2
        exact ⟨j + 1, Or.inr (Or.inl ⟨h1, _, hv, Or.inr ⟨z2, e1, q⟩⟩)⟩
theorem lb_sl_sr {f : Nat → Int32} {t : Nat} : ∀ (k : Nat) (w : Int32) (z : lb_Z) (r : lb_Y), z.1 ≤ t → ¬ (lb_op (lb_g f t z.1) = Int32.ofInt 12 ∨ lb_op (lb_g f t z.1) = Int32.ofInt 13) → lb_lp f t (lb_te f t) (Int32.ofInt 10) (Int32.ofInt 11) k (z.1, z.2.1, lb_ew z.2.2 w) r → ∃ j, lb_sr f t j w z r := by
  intro k
  induction k with
  | zero => intro w z r _ _ h; exact h.elim
  | succ k ih =>
    intro w z r hz hn h
    rcases h with ⟨h1, h⟩ | ⟨h1, r0, hv, h⟩
    · dsimp only at h1
      have q := lb_op_in (lb_g f t z.1)
      have q : lb_op (lb_g f t z.1) = Int32.ofInt (-1) := by
        rcases q with q | q | q | q | q
        · exact absurd (Or.inl q) h1
        · exact absurd (Or.inr q) h1
        · exact absurd (Or.inl q) hn
        · exact absurd (Or.inr q) hn
        · exact q
      exact ⟨1, Or.inl ⟨q, h⟩⟩
    · dsimp only at h1 hv h
      have hlt : z.1 < t := lb_op_lt (by rcases h1 with q | q <;> (rw [q]; decide))
      have hs := lb_s_le (f := f) (t := t) (t - (z.1 + 1)) (z.1 + 1) (by omega)
      obtain ⟨r2, hv2, hv⟩ := hv
      rcases hv with ⟨c, e1, e2⟩ | ⟨z2, e1, k2, hv⟩
      · subst e2
        rcases h with ⟨c2, e3, e4⟩ | ⟨z1, e3, h⟩
        · cases e3
          exact ⟨1, Or.inr (Or.inr ⟨h1, _, hv2, Or.inl ⟨c, e1, e4⟩⟩)⟩
        · cases e3
      · subst e1
        have q := lb_val_up hs.2 hv2
        have key : ∃ j, lb_sr f t j (lb_op (lb_g f t z.1)) z2 r := by
          refine lb_tl_sr k2 z2 r0 r hv ?_
          rcases h with h | ⟨z1, e3, h⟩
          · exact Or.inl h
          · subst e3
            have u := lb_lp_up (by decide) (by decide) (fun _ _ => lb_val_up) _ _ _ q.2 hv
            exact Or.inr ⟨z1, rfl, ih _ _ _ u.2.1 u.2.2 h⟩
        obtain ⟨j, key⟩ := key
        exact ⟨j + 1, Or.inr (Or.inr ⟨h1, _, hv2, Or.inr ⟨z2, rfl, key⟩⟩)⟩
theorem lb_su_sum {f : Nat → Int32} {t : Nat} {z : lb_Z} {r : lb_Y} (hz : z.1 ≤ t) (h : lb_su f t z r) : lb_sum f t z r := by
  obtain ⟨r1, hv, h⟩ := h
  obtain ⟨r2, hv2, hv⟩ := hv
  rcases hv with ⟨c, e1, e2⟩ | ⟨z2, e1, k2, hv⟩
  · subst e2
    rcases h with ⟨c2, e3, e4⟩ | ⟨z1, e3, h⟩
    · cases e3
      exact ⟨_, hv2, Or.inl ⟨c, e1, e4⟩⟩
    · cases e3
  · subst e1
    have q := lb_val_up hz hv2
    have key : ∃ j, lb_sr f t j (Int32.ofInt (-1)) z2 r := by
      refine lb_tl_sr k2 z2 r1 r hv ?_
      rcases h with h | ⟨z1, e3, k, h⟩
      · exact Or.inl h
      · subst e3
        have u := lb_lp_up (by decide) (by decide) (fun _ _ => lb_val_up) _ _ _ q.2 hv
        refine Or.inr ⟨z1, rfl, lb_sl_sr k _ _ _ u.2.1 u.2.2 ?_⟩
        have e : lb_ew z1.2.2 (Int32.ofInt (-1)) = z1.2.2 := if_pos rfl
        rw [e]
        exact h
    obtain ⟨j, key⟩ := key
    exact ⟨_, hv2, Or.inr ⟨z2, j, rfl, key⟩⟩
theorem lb_ew_c {e : lb_E} {w y : Int32} (h : ¬ w = Int32.ofInt (-1)) (hy : y = w - Int32.ofInt 8) : lb_ew e w = (lb_e e.1 w, lb_a e.2 y) := by
  unfold lb_ew
  rw [if_neg h, hy]
  rfl
theorem md_terml {X : nt_X} {d t x B Tb Sg Ln : Nat} {f : Nat → Int32} {M : nt_M} {J0 : Nat → Nat → Int32} {o : Option Value × nt_M} (hP : md_P M J0 f t x B Tb Sg Ln) (hB : lb_by f t) : ∀ (c q m : Nat) (e : Nat × (Nat → Int32)) (J : Nat → Nat → Int32) (s0 : Nat × (Nat → Int32)) (s9 : Int32), t - lb_s f t q < c → md_S J0 B Sg Ln x q 0 m e J → q ≤ t → nt_rn X d 152 (9, [(1, .int s9), (0, .ref B)], [], me_w M J) o → ∃ r a J', o = (some (.int a), me_w M J') ∧ (∃ k, lb_lp f t (lb_val f t) (Int32.ofInt 12) (Int32.ofInt 13) k (lb_s f t q, m, (s0, e)) r) ∧ md_Q J0 B Sg Ln x t f r a J' := by
  have t4 : t ≤ 400 := hP.2.2.2.2.2.1
  intro cc
  induction cc with
  | zero => intro q m e J s0 s9 hc; omega
  | succ cc ih =>
    intro q m e J s0 s9 hcc hS hp k
    have k := ly_revb 1 (c' := (10, [(1, .int (s9)), (0, .ref B)], [.ref B], me_w M J)) rfl k
    obtain ⟨d1, o1, ed, kc, k⟩ := lz_c (g := 136) (q := 1) (vs := [.ref B]) (rest := []) rfl rfl (by decide) (Or.inr (Or.inl ⟨_, rfl, rfl⟩)) rfl k
    have e1 := md_see hP hS hp kc
    subst e1
    have hS10 := md_Sq (y := lb_s f t q) hP hS
    have hp10 : lb_s f t q ≤ t := (lb_s_le (t - q) q (by omega)).2
    have k : nt_rn X _ 152 (13, [(1, .int (s9)), (0, .ref B)], [.int (lb_g f t (lb_s f t q))], me_w M (nt_u J B 15 (nI (lb_s f t q)))) _ := k
    have k := ly_revb 2 (c' := (if (lb_g f t (lb_s f t q)) = (Int32.ofInt 42) then 27 else 18, [(1, .int (s9)), (0, .ref B)], [], me_w M (nt_u J B 15 (nI (lb_s f t q))))) rfl k
    by_cases h15 : lb_g f t (lb_s f t q) = Int32.ofInt 42
    · rw [if_pos (show (lb_g f t (lb_s f t q)) = (Int32.ofInt 42) from h15)] at k
      have k := ly_revb 1 (c' := (28, [(1, .int (s9)), (0, .ref B)], [.ref B], me_w M (nt_u J B 15 (nI (lb_s f t q))))) rfl k
      have k := lz_get (a := B) (g := 1100) (M := me_w M (nt_u J B 15 (nI (lb_s f t q)))) (v := .ref Tb) rfl (nt_gfR rfl hP.1.1) k
      have k := ly_revb 1 (c' := (32, [(1, .int (s9)), (0, .ref B)], [.ref B, .ref Tb], me_w M (nt_u J B 15 (nI (lb_s f t q))))) rfl k
      have k := lz_get (a := B) (g := 1115) (M := me_w M (nt_u J B 15 (nI (lb_s f t q)))) (v := .int (nI (lb_s f t q))) rfl (congrArg Value.int (hS10.1)) k
      have k := me_bald (q := (lb_s f t q)) (v := f ((lb_s f t q))) rfl (rfl) (by omega) (md_f hP hS10 ((lb_s f t q))) k
      have k := ly_revb 2 (c' := (if (f ((lb_s f t q))) = (Int32.ofInt 42) then 41 else 45, [(1, .int (s9)), (0, .ref B)], [], me_w M (nt_u J B 15 (nI (lb_s f t q))))) rfl k
      have hlt : lb_s f t q < t := lb_g_lt (by rw [h15]; decide)
      rw [if_pos (show (f ((lb_s f t q))) = (Int32.ofInt 42) from lb_g1 hB hlt (by decide) (by decide) h15)] at k
      have k := ly_revb 5 (c' := (49, [(1, .int (Int32.ofInt 4)), (0, .ref B)], [.ref B, .ref B], me_w M (nt_u J B 15 (nI (lb_s f t q))))) rfl k
      have k := lz_get (a := B) (g := 1115) (M := me_w M (nt_u J B 15 (nI (lb_s f t q)))) (v := .int (nI (lb_s f t q))) rfl (congrArg Value.int (hS10.1)) k
      have k := ly_revb 2 (c' := (54, [(1, .int (Int32.ofInt 4)), (0, .ref B)], [.int ((nI (lb_s f t q)) + (Int32.ofInt 1)), .ref B], me_w M (nt_u J B 15 (nI (lb_s f t q))))) rfl k
      rw [show ((nI (lb_s f t q)) + (Int32.ofInt 1) : Int32) = nI ((lb_s f t q) + 1) from me_add (k := 1)] at k
      have k := me_put rfl (by decide) k
      have k : nt_rn X _ 152 (57, [(1, .int (Int32.ofInt 4)), (0, .ref B)], [], me_w M (nt_u (nt_u J B 15 (nI (lb_s f t q))) B 15 (nI ((lb_s f t q) + 1)))) _ := k
      have hV0 := md_Sq (y := lb_s f t q + 1) hP hS10
      have k := ly_revb 1 (c' := (58, [(1, .int (Int32.ofInt 4)), (0, .ref B)], [.ref B], me_w M (nt_u (nt_u J B 15 (nI (lb_s f t q))) B 15 (nI ((lb_s f t q) + 1))))) rfl k
      obtain ⟨d1, o1, ed, kc, k⟩ := lz_c (g := 153) (q := 1) (vs := [.ref B]) (rest := []) rfl rfl (by decide) (Or.inr (Or.inl ⟨_, rfl, rfl⟩)) rfl k
      obtain ⟨r1, a1, J1, e1, hv1, hQ1⟩ := md_value (s0 := s0) hP hV0 (show lb_s f t q + 1 ≤ t from hlt) kc
      subst e1
      rcases r1 with c | z1
      · obtain ⟨hc, rfl, q1, m1, e1, hT1, hq1⟩ := hQ1
        have k : nt_rn X _ 152 (61, [(1, .int (Int32.ofInt 4)), (0, .ref B)], [.int (Int32.ofInt 0)], me_w M J1) _ := k
        have k := ly_revb 1 (c' := (if (Int32.ofInt 0) = 0 then 64 else 66, [(1, .int (Int32.ofInt 4)), (0, .ref B)], [], me_w M J1)) rfl k
        rw [if_pos (show (Int32.ofInt 0) = 0 from by decide)] at k
        have k := ly_revb 1 (c' := (65, [(1, .int (Int32.ofInt 4)), (0, .ref B)], [.int (Int32.ofInt 0)], me_w M J1)) rfl k
        have k := lz_ri rfl (by decide) k
        have ho : lb_op (lb_g f t (lb_s f t q)) = Int32.ofInt 12 := by rw [h15]; decide
        have hl2 : lb_lp f t (lb_val f t) (Int32.ofInt 12) (Int32.ofInt 13) 1 (lb_s f t q, m, (s0, e)) (.inl c) := Or.inr ⟨Or.inl ho, _, hv1, Or.inl ⟨c, rfl, rfl⟩⟩
        exact ⟨_, _, _, k, ⟨_, hl2⟩, ⟨hc, rfl, _, _, _, hT1, hq1⟩⟩
      · obtain ⟨rfl, q1, hz1, hq1, hT1⟩ := hQ1
        have k : nt_rn X _ 152 (61, [(1, .int (Int32.ofInt 4)), (0, .ref B)], [.int (Int32.ofInt 1)], me_w M J1) _ := k
        have k := ly_revb 1 (c' := (if (Int32.ofInt 1) = 0 then 64 else 66, [(1, .int (Int32.ofInt 4)), (0, .ref B)], [], me_w M J1)) rfl k
        rw [if_neg (show ¬ ((Int32.ofInt 1) = 0) from by decide)] at k
        have k := ly_revb 3 (c' := (69, [(1, .int (Int32.ofInt 4)), (0, .ref B)], [.int (Int32.ofInt 0), .int (Int32.ofInt 4), .ref B], me_w M J1)) rfl k
        obtain ⟨d1, o1, ed, kc, k⟩ := lz_c (g := 155) (q := 1) (vs := [.ref B, .int (Int32.ofInt 4), .int (Int32.ofInt 0)]) (rest := []) rfl rfl (by decide) (Or.inr (Or.inl ⟨_, rfl, rfl⟩)) rfl k
        obtain ⟨hb, e1⟩ := md_puts hP hT1 hq1 kc
        subst e1
        have hU1 := md_Se (y := (Int32.ofInt 4) + Int32.ofInt 16 * (Int32.ofInt 0)) hP hT1 hb
        have k : nt_rn X _ 152 (72, [(1, .int (Int32.ofInt 4)), (0, .ref B)], [], me_w M (nt_u (nt_u J1 Sg (400 * x + z1.2.2.2.1) ((Int32.ofInt 4) + Int32.ofInt 16 * (Int32.ofInt 0))) Ln x (nI (z1.2.2.2.1 + 1)))) _ := k
        have k := ly_revb 1 (c' := (9, [(1, .int (Int32.ofInt 4)), (0, .ref B)], [], me_w M (nt_u (nt_u J1 Sg (400 * x + z1.2.2.2.1) ((Int32.ofInt 4) + Int32.ofInt 16 * (Int32.ofInt 0))) Ln x (nI (z1.2.2.2.1 + 1))))) rfl k
        have hup := lb_val_up ((lb_s_le (f := f) (t := t) (t - (lb_s f t q + 1)) (lb_s f t q + 1) (by omega)).2) hv1
        have hsl := lb_s_le (f := f) (t := t) (t - (lb_s f t q + 1)) (lb_s f t q + 1) (by omega)
        dsimp only at hup
        obtain ⟨r, a, J9, e9, ⟨kk, hl⟩, hQ⟩ := ih q1 _ _ _ (lb_e z1.2.2.1 (Int32.ofInt 12)) _ (by rw [hz1]; omega) hU1 hq1 k
        rw [hz1, ← lb_ew_c (e := z1.2.2) (w := Int32.ofInt 12) (by decide) (by decide)] at hl
        have ho : lb_op (lb_g f t (lb_s f t q)) = Int32.ofInt 12 := by rw [h15]; decide
        have hl2 : lb_lp f t (lb_val f t) (Int32.ofInt 12) (Int32.ofInt 13) (kk + 1) (lb_s f t q, m, (s0, e)) r := Or.inr ⟨Or.inl ho, _, hv1, Or.inr ⟨_, rfl, by dsimp only; rw [ho]; exact hl⟩⟩
        exact ⟨_, _, _, e9, ⟨_, hl2⟩, hQ⟩
    · rw [if_neg (show ¬ ((lb_g f t (lb_s f t q)) = (Int32.ofInt 42)) from h15)] at k
      have k := ly_revb 1 (c' := (19, [(1, .int (s9)), (0, .ref B)], [.ref B], me_w M (nt_u J B 15 (nI (lb_s f t q))))) rfl k
      obtain ⟨d1, o1, ed, kc, k⟩ := lz_c (g := 136) (q := 1) (vs := [.ref B]) (rest := []) rfl rfl (by decide) (Or.inr (Or.inl ⟨_, rfl, rfl⟩)) rfl k
      have e1 := md_see hP hS10 hp10 kc
      rw [lb_ss hp, me_uu] at e1
      subst e1
      have k : nt_rn X _ 152 (22, [(1, .int (s9)), (0, .ref B)], [.int (lb_g f t (lb_s f t q))], me_w M (nt_u J B 15 (nI (lb_s f t q)))) _ := k
      have k := ly_revb 2 (c' := (if (lb_g f t (lb_s f t q)) = (Int32.ofInt 47) then 27 else 75, [(1, .int (s9)), (0, .ref B)], [], me_w M (nt_u J B 15 (nI (lb_s f t q))))) rfl k
      by_cases h24 : lb_g f t (lb_s f t q) = Int32.ofInt 47
      · rw [if_pos (show (lb_g f t (lb_s f t q)) = (Int32.ofInt 47) from h24)] at k
        have k := ly_revb 1 (c' := (28, [(1, .int (s9)), (0, .ref B)], [.ref B], me_w M (nt_u J B 15 (nI (lb_s f t q))))) rfl k
        have k := lz_get (a := B) (g := 1100) (M := me_w M (nt_u J B 15 (nI (lb_s f t q)))) (v := .ref Tb) rfl (nt_gfR rfl hP.1.1) k
        have k := ly_revb 1 (c' := (32, [(1, .int (s9)), (0, .ref B)], [.ref B, .ref Tb], me_w M (nt_u J B 15 (nI (lb_s f t q))))) rfl k
        have k := lz_get (a := B) (g := 1115) (M := me_w M (nt_u J B 15 (nI (lb_s f t q)))) (v := .int (nI (lb_s f t q))) rfl (congrArg Value.int (hS10.1)) k
        have k := me_bald (q := (lb_s f t q)) (v := f ((lb_s f t q))) rfl (rfl) (by omega) (md_f hP hS10 ((lb_s f t q))) k
        have k := ly_revb 2 (c' := (if (f ((lb_s f t q))) = (Int32.ofInt 42) then 41 else 45, [(1, .int (s9)), (0, .ref B)], [], me_w M (nt_u J B 15 (nI (lb_s f t q))))) rfl k
        have hlt : lb_s f t q < t := lb_g_lt (by rw [h24]; decide)
        rw [if_neg (show ¬ ((f ((lb_s f t q))) = (Int32.ofInt 42)) from fun c => h15 (lb_g2 hB hlt (by decide) c))] at k
        have k := ly_revb 4 (c' := (49, [(1, .int (Int32.ofInt 5)), (0, .ref B)], [.ref B, .ref B], me_w M (nt_u J B 15 (nI (lb_s f t q))))) rfl k
        have k := lz_get (a := B) (g := 1115) (M := me_w M (nt_u J B 15 (nI (lb_s f t q)))) (v := .int (nI (lb_s f t q))) rfl (congrArg Value.int (hS10.1)) k
        have k := ly_revb 2 (c' := (54, [(1, .int (Int32.ofInt 5)), (0, .ref B)], [.int ((nI (lb_s f t q)) + (Int32.ofInt 1)), .ref B], me_w M (nt_u J B 15 (nI (lb_s f t q))))) rfl k
        rw [show ((nI (lb_s f t q)) + (Int32.ofInt 1) : Int32) = nI ((lb_s f t q) + 1) from me_add (k := 1)] at k
        have k := me_put rfl (by decide) k
        have k : nt_rn X _ 152 (57, [(1, .int (Int32.ofInt 5)), (0, .ref B)], [], me_w M (nt_u (nt_u J B 15 (nI (lb_s f t q))) B 15 (nI ((lb_s f t q) + 1)))) _ := k
        have hV0 := md_Sq (y := lb_s f t q + 1) hP hS10
        have k := ly_revb 1 (c' := (58, [(1, .int (Int32.ofInt 5)), (0, .ref B)], [.ref B], me_w M (nt_u (nt_u J B 15 (nI (lb_s f t q))) B 15 (nI ((lb_s f t q) + 1))))) rfl k
        obtain ⟨d1, o1, ed, kc, k⟩ := lz_c (g := 153) (q := 1) (vs := [.ref B]) (rest := []) rfl rfl (by decide) (Or.inr (Or.inl ⟨_, rfl, rfl⟩)) rfl k
        obtain ⟨r1, a1, J1, e1, hv1, hQ1⟩ := md_value (s0 := s0) hP hV0 (show lb_s f t q + 1 ≤ t from hlt) kc
        subst e1
        rcases r1 with c | z1
        · obtain ⟨hc, rfl, q1, m1, e1, hT1, hq1⟩ := hQ1
          have k : nt_rn X _ 152 (61, [(1, .int (Int32.ofInt 5)), (0, .ref B)], [.int (Int32.ofInt 0)], me_w M J1) _ := k
          have k := ly_revb 1 (c' := (if (Int32.ofInt 0) = 0 then 64 else 66, [(1, .int (Int32.ofInt 5)), (0, .ref B)], [], me_w M J1)) rfl k
          rw [if_pos (show (Int32.ofInt 0) = 0 from by decide)] at k
          have k := ly_revb 1 (c' := (65, [(1, .int (Int32.ofInt 5)), (0, .ref B)], [.int (Int32.ofInt 0)], me_w M J1)) rfl k
          have k := lz_ri rfl (by decide) k
          have ho : lb_op (lb_g f t (lb_s f t q)) = Int32.ofInt 13 := by rw [h24]; decide
          have hl2 : lb_lp f t (lb_val f t) (Int32.ofInt 12) (Int32.ofInt 13) 1 (lb_s f t q, m, (s0, e)) (.inl c) := Or.inr ⟨Or.inr ho, _, hv1, Or.inl ⟨c, rfl, rfl⟩⟩
          exact ⟨_, _, _, k, ⟨_, hl2⟩, ⟨hc, rfl, _, _, _, hT1, hq1⟩⟩
        · obtain ⟨rfl, q1, hz1, hq1, hT1⟩ := hQ1
          have k : nt_rn X _ 152 (61, [(1, .int (Int32.ofInt 5)), (0, .ref B)], [.int (Int32.ofInt 1)], me_w M J1) _ := k
          have k := ly_revb 1 (c' := (if (Int32.ofInt 1) = 0 then 64 else 66, [(1, .int (Int32.ofInt 5)), (0, .ref B)], [], me_w M J1)) rfl k
          rw [if_neg (show ¬ ((Int32.ofInt 1) = 0) from by decide)] at k
          have k := ly_revb 3 (c' := (69, [(1, .int (Int32.ofInt 5)), (0, .ref B)], [.int (Int32.ofInt 0), .int (Int32.ofInt 5), .ref B], me_w M J1)) rfl k
          obtain ⟨d1, o1, ed, kc, k⟩ := lz_c (g := 155) (q := 1) (vs := [.ref B, .int (Int32.ofInt 5), .int (Int32.ofInt 0)]) (rest := []) rfl rfl (by decide) (Or.inr (Or.inl ⟨_, rfl, rfl⟩)) rfl k
          obtain ⟨hb, e1⟩ := md_puts hP hT1 hq1 kc
          subst e1
          have hU1 := md_Se (y := (Int32.ofInt 5) + Int32.ofInt 16 * (Int32.ofInt 0)) hP hT1 hb
          have k : nt_rn X _ 152 (72, [(1, .int (Int32.ofInt 5)), (0, .ref B)], [], me_w M (nt_u (nt_u J1 Sg (400 * x + z1.2.2.2.1) ((Int32.ofInt 5) + Int32.ofInt 16 * (Int32.ofInt 0))) Ln x (nI (z1.2.2.2.1 + 1)))) _ := k
          have k := ly_revb 1 (c' := (9, [(1, .int (Int32.ofInt 5)), (0, .ref B)], [], me_w M (nt_u (nt_u J1 Sg (400 * x + z1.2.2.2.1) ((Int32.ofInt 5) + Int32.ofInt 16 * (Int32.ofInt 0))) Ln x (nI (z1.2.2.2.1 + 1))))) rfl k
          have hup := lb_val_up ((lb_s_le (f := f) (t := t) (t - (lb_s f t q + 1)) (lb_s f t q + 1) (by omega)).2) hv1
          have hsl := lb_s_le (f := f) (t := t) (t - (lb_s f t q + 1)) (lb_s f t q + 1) (by omega)
          dsimp only at hup
          obtain ⟨r, a, J9, e9, ⟨kk, hl⟩, hQ⟩ := ih q1 _ _ _ (lb_e z1.2.2.1 (Int32.ofInt 13)) _ (by rw [hz1]; omega) hU1 hq1 k
          rw [hz1, ← lb_ew_c (e := z1.2.2) (w := Int32.ofInt 13) (by decide) (by decide)] at hl
          have ho : lb_op (lb_g f t (lb_s f t q)) = Int32.ofInt 13 := by rw [h24]; decide
          have hl2 : lb_lp f t (lb_val f t) (Int32.ofInt 12) (Int32.ofInt 13) (kk + 1) (lb_s f t q, m, (s0, e)) r := Or.inr ⟨Or.inr ho, _, hv1, Or.inr ⟨_, rfl, by dsimp only; rw [ho]; exact hl⟩⟩
          exact ⟨_, _, _, e9, ⟨_, hl2⟩, hQ⟩
      · rw [if_neg (show ¬ ((lb_g f t (lb_s f t q)) = (Int32.ofInt 47)) from h24)] at k
        have k := ly_revb 1 (c' := (76, [(1, .int (s9)), (0, .ref B)], [.int (Int32.ofInt 1)], me_w M (nt_u J B 15 (nI (lb_s f t q))))) rfl k
        have k := lz_ri rfl (by decide) k
        have hno : ¬ (lb_op (lb_g f t (lb_s f t q)) = Int32.ofInt 12 ∨ lb_op (lb_g f t (lb_s f t q)) = Int32.ofInt 13) := fun hh => hh.elim (fun c => h15 (lb_op_i.2.2.1 c)) (fun c => h24 (lb_op_i.2.2.2 c))
        have hl2 : lb_lp f t (lb_val f t) (Int32.ofInt 12) (Int32.ofInt 13) 1 (lb_s f t q, m, (s0, e)) (.inr (lb_s f t q, m, (s0, e))) := Or.inl ⟨hno, rfl⟩
        exact ⟨_, _, _, k, ⟨_, hl2⟩, ⟨rfl, _, lb_ss hp, hp10, hS10⟩⟩
theorem md_term {X : nt_X} {d t x B Tb Sg Ln q m : Nat} {f : Nat → Int32} {M : nt_M} {J0 J : Nat → Nat → Int32} {o : Option Value × nt_M} {e : Nat × (Nat → Int32)} {s0 : Nat × (Nat → Int32)} (hP : md_P M J0 f t x B Tb Sg Ln) (hB : lb_by f t) (hS : md_S J0 B Sg Ln x q 0 m e J) (hp : q ≤ t) (k : nt_ev X d 152 [.ref B] (me_w M J) o) : ∃ r a J', o = (some (.int a), me_w M J') ∧ lb_te f t (lb_s f t q, m, (s0, e)) r ∧ md_Q J0 B Sg Ln x t f r a J' := by
  have k : nt_rn X d 152 (0, [(0, .ref B)], [], me_w M J) o := k
  have t4 : t ≤ 400 := hP.2.2.2.2.2.1
  have k := ly_revb 1 (c' := (1, [(0, .ref B)], [.ref B], me_w M J)) rfl k
  obtain ⟨d1, o1, ed, kc, k⟩ := lz_c (g := 153) (q := 1) (vs := [.ref B]) (rest := []) rfl rfl (by decide) (Or.inr (Or.inl ⟨_, rfl, rfl⟩)) rfl k
  obtain ⟨r1, a1, J1, e1, hv1, hQ1⟩ := md_value (s0 := s0) hP hS hp kc
  subst e1
  rcases r1 with c | z1
  · obtain ⟨hc, rfl, q1, m1, e1, hT1, hq1⟩ := hQ1
    have k : nt_rn X _ 152 (4, [(0, .ref B)], [.int (Int32.ofInt 0)], me_w M J1) _ := k
    have k := ly_revb 1 (c' := (if (Int32.ofInt 0) = 0 then 7 else 9, [(0, .ref B)], [], me_w M J1)) rfl k
    rw [if_pos (show (Int32.ofInt 0) = 0 from by decide)] at k
    have k := ly_revb 1 (c' := (8, [(0, .ref B)], [.int (Int32.ofInt 0)], me_w M J1)) rfl k
    have k := lz_ri rfl (by decide) k
    exact ⟨.inl c, _, _, k, ⟨_, hv1, Or.inl ⟨c, rfl, rfl⟩⟩, hc, rfl, _, _, _, hT1, hq1⟩
  · obtain ⟨rfl, q1, hz1, hq1, hT1⟩ := hQ1
    have k : nt_rn X _ 152 (4, [(0, .ref B)], [.int (Int32.ofInt 1)], me_w M J1) _ := k
    have k := ly_revb 1 (c' := (if (Int32.ofInt 1) = 0 then 7 else 9, [(0, .ref B)], [], me_w M J1)) rfl k
    rw [if_neg (show ¬ ((Int32.ofInt 1) = 0) from by decide)] at k
    have k := ly_revb 1 (c' := (10, [(0, .ref B)], [.ref B], me_w M J1)) rfl k
    obtain ⟨d1, o1, ed, kc, k⟩ := lz_c (g := 136) (q := 1) (vs := [.ref B]) (rest := []) rfl rfl (by decide) (Or.inr (Or.inl ⟨_, rfl, rfl⟩)) rfl k
    have e1 := md_see hP hT1 hq1 kc
    subst e1
    have hS11 := md_Sq (y := lb_s f t q1) hP hT1
    have hp11 : lb_s f t q1 ≤ t := (lb_s_le (t - q1) q1 (by omega)).2
    have k : nt_rn X _ 152 (13, [(0, .ref B)], [.int (lb_g f t (lb_s f t q1))], me_w M (nt_u J1 B 15 (nI (lb_s f t q1)))) _ := k
    have k := ly_revb 2 (c' := (if (lb_g f t (lb_s f t q1)) = (Int32.ofInt 42) then 27 else 18, [(0, .ref B)], [], me_w M (nt_u J1 B 15 (nI (lb_s f t q1))))) rfl k
    by_cases h15 : lb_g f t (lb_s f t q1) = Int32.ofInt 42
    · rw [if_pos (show (lb_g f t (lb_s f t q1)) = (Int32.ofInt 42) from h15)] at k
      have k := ly_revb 1 (c' := (28, [(0, .ref B)], [.ref B], me_w M (nt_u J1 B 15 (nI (lb_s f t q1))))) rfl k
      have k := lz_get (a := B) (g := 1100) (M := me_w M (nt_u J1 B 15 (nI (lb_s f t q1)))) (v := .ref Tb) rfl (nt_gfR rfl hP.1.1) k
      have k := ly_revb 1 (c' := (32, [(0, .ref B)], [.ref B, .ref Tb], me_w M (nt_u J1 B 15 (nI (lb_s f t q1))))) rfl k
      have k := lz_get (a := B) (g := 1115) (M := me_w M (nt_u J1 B 15 (nI (lb_s f t q1)))) (v := .int (nI (lb_s f t q1))) rfl (congrArg Value.int (hS11.1)) k
      have k := me_bald (q := (lb_s f t q1)) (v := f ((lb_s f t q1))) rfl (rfl) (by omega) (md_f hP hS11 ((lb_s f t q1))) k
      have k := ly_revb 2 (c' := (if (f ((lb_s f t q1))) = (Int32.ofInt 42) then 41 else 45, [(0, .ref B)], [], me_w M (nt_u J1 B 15 (nI (lb_s f t q1))))) rfl k
      have hlt : lb_s f t q1 < t := lb_g_lt (by rw [h15]; decide)
      rw [if_pos (show (f ((lb_s f t q1))) = (Int32.ofInt 42) from lb_g1 hB hlt (by decide) (by decide) h15)] at k
      have k := ly_revb 5 (c' := (49, [(1, .int (Int32.ofInt 4)), (0, .ref B)], [.ref B, .ref B], me_w M (nt_u J1 B 15 (nI (lb_s f t q1))))) rfl k
      have k := lz_get (a := B) (g := 1115) (M := me_w M (nt_u J1 B 15 (nI (lb_s f t q1)))) (v := .int (nI (lb_s f t q1))) rfl (congrArg Value.int (hS11.1)) k
      have k := ly_revb 2 (c' := (54, [(1, .int (Int32.ofInt 4)), (0, .ref B)], [.int ((nI (lb_s f t q1)) + (Int32.ofInt 1)), .ref B], me_w M (nt_u J1 B 15 (nI (lb_s f t q1))))) rfl k
      rw [show ((nI (lb_s f t q1)) + (Int32.ofInt 1) : Int32) = nI ((lb_s f t q1) + 1) from me_add (k := 1)] at k
      have k := me_put rfl (by decide) k
      have k : nt_rn X _ 152 (57, [(1, .int (Int32.ofInt 4)), (0, .ref B)], [], me_w M (nt_u (nt_u J1 B 15 (nI (lb_s f t q1))) B 15 (nI ((lb_s f t q1) + 1)))) _ := k
      have hV1 := md_Sq (y := lb_s f t q1 + 1) hP hS11
      have k := ly_revb 1 (c' := (58, [(1, .int (Int32.ofInt 4)), (0, .ref B)], [.ref B], me_w M (nt_u (nt_u J1 B 15 (nI (lb_s f t q1))) B 15 (nI ((lb_s f t q1) + 1))))) rfl k
      obtain ⟨d1, o1, ed, kc, k⟩ := lz_c (g := 153) (q := 1) (vs := [.ref B]) (rest := []) rfl rfl (by decide) (Or.inr (Or.inl ⟨_, rfl, rfl⟩)) rfl k
      obtain ⟨r2, a2, J2, e1, hv2, hQ2⟩ := md_value (s0 := z1.2.2.1) hP hV1 (show lb_s f t q1 + 1 ≤ t from hlt) kc
      subst e1
      rcases r2 with c | z2
      · obtain ⟨hc, rfl, q2, m2, e2, hT2, hq2⟩ := hQ2
        have k : nt_rn X _ 152 (61, [(1, .int (Int32.ofInt 4)), (0, .ref B)], [.int (Int32.ofInt 0)], me_w M J2) _ := k
        have k := ly_revb 1 (c' := (if (Int32.ofInt 0) = 0 then 64 else 66, [(1, .int (Int32.ofInt 4)), (0, .ref B)], [], me_w M J2)) rfl k
        rw [if_pos (show (Int32.ofInt 0) = 0 from by decide)] at k
        have k := ly_revb 1 (c' := (65, [(1, .int (Int32.ofInt 4)), (0, .ref B)], [.int (Int32.ofInt 0)], me_w M J2)) rfl k
        have k := lz_ri rfl (by decide) k
        have ho : lb_op (lb_g f t (lb_s f t q1)) = Int32.ofInt 12 := by rw [h15]; decide
        have hl2 : lb_lp f t (lb_val f t) (Int32.ofInt 12) (Int32.ofInt 13) 1 (lb_s f t q1, z1.2.1, z1.2.2) (.inl c) := Or.inr ⟨Or.inl ho, _, hv2, Or.inl ⟨c, rfl, rfl⟩⟩
        have hzz : (lb_s f t q1, z1.2.1, z1.2.2) = z1 := by rw [hz1]
        rw [hzz] at hl2
        exact ⟨_, _, _, k, ⟨_, hv1, Or.inr ⟨_, rfl, _, hl2⟩⟩, ⟨hc, rfl, _, _, _, hT2, hq2⟩⟩
      · obtain ⟨rfl, q2, hz2, hq2, hT2⟩ := hQ2
        have k : nt_rn X _ 152 (61, [(1, .int (Int32.ofInt 4)), (0, .ref B)], [.int (Int32.ofInt 1)], me_w M J2) _ := k
        have k := ly_revb 1 (c' := (if (Int32.ofInt 1) = 0 then 64 else 66, [(1, .int (Int32.ofInt 4)), (0, .ref B)], [], me_w M J2)) rfl k
        rw [if_neg (show ¬ ((Int32.ofInt 1) = 0) from by decide)] at k
        have k := ly_revb 3 (c' := (69, [(1, .int (Int32.ofInt 4)), (0, .ref B)], [.int (Int32.ofInt 0), .int (Int32.ofInt 4), .ref B], me_w M J2)) rfl k
        obtain ⟨d1, o1, ed, kc, k⟩ := lz_c (g := 155) (q := 1) (vs := [.ref B, .int (Int32.ofInt 4), .int (Int32.ofInt 0)]) (rest := []) rfl rfl (by decide) (Or.inr (Or.inl ⟨_, rfl, rfl⟩)) rfl k
        obtain ⟨hb, e1⟩ := md_puts hP hT2 hq2 kc
        subst e1
        have hU2 := md_Se (y := (Int32.ofInt 4) + Int32.ofInt 16 * (Int32.ofInt 0)) hP hT2 hb
        have k : nt_rn X _ 152 (72, [(1, .int (Int32.ofInt 4)), (0, .ref B)], [], me_w M (nt_u (nt_u J2 Sg (400 * x + z2.2.2.2.1) ((Int32.ofInt 4) + Int32.ofInt 16 * (Int32.ofInt 0))) Ln x (nI (z2.2.2.2.1 + 1)))) _ := k
        have k := ly_revb 1 (c' := (9, [(1, .int (Int32.ofInt 4)), (0, .ref B)], [], me_w M (nt_u (nt_u J2 Sg (400 * x + z2.2.2.2.1) ((Int32.ofInt 4) + Int32.ofInt 16 * (Int32.ofInt 0))) Ln x (nI (z2.2.2.2.1 + 1))))) rfl k
        have hup := lb_val_up ((lb_s_le (f := f) (t := t) (t - (lb_s f t q1 + 1)) (lb_s f t q1 + 1) (by omega)).2) hv2
        have hsl := lb_s_le (f := f) (t := t) (t - (lb_s f t q1 + 1)) (lb_s f t q1 + 1) (by omega)
        dsimp only at hup
        obtain ⟨r, a, J9, e9, ⟨kk, hl⟩, hQ⟩ := md_terml hP hB (t + 1 - 0 * z2.1) q2 _ _ _ (lb_e z2.2.2.1 (Int32.ofInt 12)) _ (by rw [hz2]; omega) hU2 hq2 k
        rw [hz2, ← lb_ew_c (e := z2.2.2) (w := Int32.ofInt 12) (by decide) (by decide)] at hl
        have ho : lb_op (lb_g f t (lb_s f t q1)) = Int32.ofInt 12 := by rw [h15]; decide
        have hl2 : lb_lp f t (lb_val f t) (Int32.ofInt 12) (Int32.ofInt 13) (kk + 1) (lb_s f t q1, z1.2.1, z1.2.2) r := Or.inr ⟨Or.inl ho, _, hv2, Or.inr ⟨_, rfl, by dsimp only; rw [ho]; exact hl⟩⟩
        have hzz : (lb_s f t q1, z1.2.1, z1.2.2) = z1 := by rw [hz1]
        rw [hzz] at hl2
        exact ⟨_, _, _, e9, ⟨_, hv1, Or.inr ⟨_, rfl, _, hl2⟩⟩, hQ⟩
    · rw [if_neg (show ¬ ((lb_g f t (lb_s f t q1)) = (Int32.ofInt 42)) from h15)] at k
      have k := ly_revb 1 (c' := (19, [(0, .ref B)], [.ref B], me_w M (nt_u J1 B 15 (nI (lb_s f t q1))))) rfl k
      obtain ⟨d1, o1, ed, kc, k⟩ := lz_c (g := 136) (q := 1) (vs := [.ref B]) (rest := []) rfl rfl (by decide) (Or.inr (Or.inl ⟨_, rfl, rfl⟩)) rfl k
      have e1 := md_see hP hS11 hp11 kc
      rw [lb_ss hq1, me_uu] at e1
      subst e1
      have k : nt_rn X _ 152 (22, [(0, .ref B)], [.int (lb_g f t (lb_s f t q1))], me_w M (nt_u J1 B 15 (nI (lb_s f t q1)))) _ := k
      have k := ly_revb 2 (c' := (if (lb_g f t (lb_s f t q1)) = (Int32.ofInt 47) then 27 else 75, [(0, .ref B)], [], me_w M (nt_u J1 B 15 (nI (lb_s f t q1))))) rfl k
      by_cases h24 : lb_g f t (lb_s f t q1) = Int32.ofInt 47
      · rw [if_pos (show (lb_g f t (lb_s f t q1)) = (Int32.ofInt 47) from h24)] at k
        have k := ly_revb 1 (c' := (28, [(0, .ref B)], [.ref B], me_w M (nt_u J1 B 15 (nI (lb_s f t q1))))) rfl k
        have k := lz_get (a := B) (g := 1100) (M := me_w M (nt_u J1 B 15 (nI (lb_s f t q1)))) (v := .ref Tb) rfl (nt_gfR rfl hP.1.1) k
        have k := ly_revb 1 (c' := (32, [(0, .ref B)], [.ref B, .ref Tb], me_w M (nt_u J1 B 15 (nI (lb_s f t q1))))) rfl k
        have k := lz_get (a := B) (g := 1115) (M := me_w M (nt_u J1 B 15 (nI (lb_s f t q1)))) (v := .int (nI (lb_s f t q1))) rfl (congrArg Value.int (hS11.1)) k
        have k := me_bald (q := (lb_s f t q1)) (v := f ((lb_s f t q1))) rfl (rfl) (by omega) (md_f hP hS11 ((lb_s f t q1))) k
        have k := ly_revb 2 (c' := (if (f ((lb_s f t q1))) = (Int32.ofInt 42) then 41 else 45, [(0, .ref B)], [], me_w M (nt_u J1 B 15 (nI (lb_s f t q1))))) rfl k
        have hlt : lb_s f t q1 < t := lb_g_lt (by rw [h24]; decide)
        rw [if_neg (show ¬ ((f ((lb_s f t q1))) = (Int32.ofInt 42)) from fun c => h15 (lb_g2 hB hlt (by decide) c))] at k
        have k := ly_revb 4 (c' := (49, [(1, .int (Int32.ofInt 5)), (0, .ref B)], [.ref B, .ref B], me_w M (nt_u J1 B 15 (nI (lb_s f t q1))))) rfl k
        have k := lz_get (a := B) (g := 1115) (M := me_w M (nt_u J1 B 15 (nI (lb_s f t q1)))) (v := .int (nI (lb_s f t q1))) rfl (congrArg Value.int (hS11.1)) k
        have k := ly_revb 2 (c' := (54, [(1, .int (Int32.ofInt 5)), (0, .ref B)], [.int ((nI (lb_s f t q1)) + (Int32.ofInt 1)), .ref B], me_w M (nt_u J1 B 15 (nI (lb_s f t q1))))) rfl k
        rw [show ((nI (lb_s f t q1)) + (Int32.ofInt 1) : Int32) = nI ((lb_s f t q1) + 1) from me_add (k := 1)] at k
        have k := me_put rfl (by decide) k
        have k : nt_rn X _ 152 (57, [(1, .int (Int32.ofInt 5)), (0, .ref B)], [], me_w M (nt_u (nt_u J1 B 15 (nI (lb_s f t q1))) B 15 (nI ((lb_s f t q1) + 1)))) _ := k
        have hV1 := md_Sq (y := lb_s f t q1 + 1) hP hS11
        have k := ly_revb 1 (c' := (58, [(1, .int (Int32.ofInt 5)), (0, .ref B)], [.ref B], me_w M (nt_u (nt_u J1 B 15 (nI (lb_s f t q1))) B 15 (nI ((lb_s f t q1) + 1))))) rfl k
        obtain ⟨d1, o1, ed, kc, k⟩ := lz_c (g := 153) (q := 1) (vs := [.ref B]) (rest := []) rfl rfl (by decide) (Or.inr (Or.inl ⟨_, rfl, rfl⟩)) rfl k
        obtain ⟨r2, a2, J2, e1, hv2, hQ2⟩ := md_value (s0 := z1.2.2.1) hP hV1 (show lb_s f t q1 + 1 ≤ t from hlt) kc
        subst e1
        rcases r2 with c | z2
        · obtain ⟨hc, rfl, q2, m2, e2, hT2, hq2⟩ := hQ2
          have k : nt_rn X _ 152 (61, [(1, .int (Int32.ofInt 5)), (0, .ref B)], [.int (Int32.ofInt 0)], me_w M J2) _ := k
          have k := ly_revb 1 (c' := (if (Int32.ofInt 0) = 0 then 64 else 66, [(1, .int (Int32.ofInt 5)), (0, .ref B)], [], me_w M J2)) rfl k
          rw [if_pos (show (Int32.ofInt 0) = 0 from by decide)] at k
          have k := ly_revb 1 (c' := (65, [(1, .int (Int32.ofInt 5)), (0, .ref B)], [.int (Int32.ofInt 0)], me_w M J2)) rfl k
          have k := lz_ri rfl (by decide) k
          have ho : lb_op (lb_g f t (lb_s f t q1)) = Int32.ofInt 13 := by rw [h24]; decide
          have hl2 : lb_lp f t (lb_val f t) (Int32.ofInt 12) (Int32.ofInt 13) 1 (lb_s f t q1, z1.2.1, z1.2.2) (.inl c) := Or.inr ⟨Or.inr ho, _, hv2, Or.inl ⟨c, rfl, rfl⟩⟩
          have hzz : (lb_s f t q1, z1.2.1, z1.2.2) = z1 := by rw [hz1]
          rw [hzz] at hl2
          exact ⟨_, _, _, k, ⟨_, hv1, Or.inr ⟨_, rfl, _, hl2⟩⟩, ⟨hc, rfl, _, _, _, hT2, hq2⟩⟩
        · obtain ⟨rfl, q2, hz2, hq2, hT2⟩ := hQ2
          have k : nt_rn X _ 152 (61, [(1, .int (Int32.ofInt 5)), (0, .ref B)], [.int (Int32.ofInt 1)], me_w M J2) _ := k
          have k := ly_revb 1 (c' := (if (Int32.ofInt 1) = 0 then 64 else 66, [(1, .int (Int32.ofInt 5)), (0, .ref B)], [], me_w M J2)) rfl k
          rw [if_neg (show ¬ ((Int32.ofInt 1) = 0) from by decide)] at k
          have k := ly_revb 3 (c' := (69, [(1, .int (Int32.ofInt 5)), (0, .ref B)], [.int (Int32.ofInt 0), .int (Int32.ofInt 5), .ref B], me_w M J2)) rfl k
          obtain ⟨d1, o1, ed, kc, k⟩ := lz_c (g := 155) (q := 1) (vs := [.ref B, .int (Int32.ofInt 5), .int (Int32.ofInt 0)]) (rest := []) rfl rfl (by decide) (Or.inr (Or.inl ⟨_, rfl, rfl⟩)) rfl k
          obtain ⟨hb, e1⟩ := md_puts hP hT2 hq2 kc
          subst e1
          have hU2 := md_Se (y := (Int32.ofInt 5) + Int32.ofInt 16 * (Int32.ofInt 0)) hP hT2 hb
          have k : nt_rn X _ 152 (72, [(1, .int (Int32.ofInt 5)), (0, .ref B)], [], me_w M (nt_u (nt_u J2 Sg (400 * x + z2.2.2.2.1) ((Int32.ofInt 5) + Int32.ofInt 16 * (Int32.ofInt 0))) Ln x (nI (z2.2.2.2.1 + 1)))) _ := k
          have k := ly_revb 1 (c' := (9, [(1, .int (Int32.ofInt 5)), (0, .ref B)], [], me_w M (nt_u (nt_u J2 Sg (400 * x + z2.2.2.2.1) ((Int32.ofInt 5) + Int32.ofInt 16 * (Int32.ofInt 0))) Ln x (nI (z2.2.2.2.1 + 1))))) rfl k
          have hup := lb_val_up ((lb_s_le (f := f) (t := t) (t - (lb_s f t q1 + 1)) (lb_s f t q1 + 1) (by omega)).2) hv2
          have hsl := lb_s_le (f := f) (t := t) (t - (lb_s f t q1 + 1)) (lb_s f t q1 + 1) (by omega)
          dsimp only at hup
          obtain ⟨r, a, J9, e9, ⟨kk, hl⟩, hQ⟩ := md_terml hP hB (t + 1 - 0 * z2.1) q2 _ _ _ (lb_e z2.2.2.1 (Int32.ofInt 13)) _ (by rw [hz2]; omega) hU2 hq2 k
          rw [hz2, ← lb_ew_c (e := z2.2.2) (w := Int32.ofInt 13) (by decide) (by decide)] at hl
          have ho : lb_op (lb_g f t (lb_s f t q1)) = Int32.ofInt 13 := by rw [h24]; decide
          have hl2 : lb_lp f t (lb_val f t) (Int32.ofInt 12) (Int32.ofInt 13) (kk + 1) (lb_s f t q1, z1.2.1, z1.2.2) r := Or.inr ⟨Or.inr ho, _, hv2, Or.inr ⟨_, rfl, by dsimp only; rw [ho]; exact hl⟩⟩
          have hzz : (lb_s f t q1, z1.2.1, z1.2.2) = z1 := by rw [hz1]
          rw [hzz] at hl2
          exact ⟨_, _, _, e9, ⟨_, hv1, Or.inr ⟨_, rfl, _, hl2⟩⟩, hQ⟩
      · rw [if_neg (show ¬ ((lb_g f t (lb_s f t q1)) = (Int32.ofInt 47)) from h24)] at k
        have k := ly_revb 1 (c' := (76, [(0, .ref B)], [.int (Int32.ofInt 1)], me_w M (nt_u J1 B 15 (nI (lb_s f t q1))))) rfl k
        have k := lz_ri rfl (by decide) k
        have hno : ¬ (lb_op (lb_g f t (lb_s f t q1)) = Int32.ofInt 12 ∨ lb_op (lb_g f t (lb_s f t q1)) = Int32.ofInt 13) := fun hh => hh.elim (fun c => h15 (lb_op_i.2.2.1 c)) (fun c => h24 (lb_op_i.2.2.2 c))
        have hl2 : lb_lp f t (lb_val f t) (Int32.ofInt 12) (Int32.ofInt 13) 1 (lb_s f t q1, z1.2.1, z1.2.2) (.inr (lb_s f t q1, z1.2.1, z1.2.2)) := Or.inl ⟨hno, rfl⟩
        have hzz : (lb_s f t q1, z1.2.1, z1.2.2) = z1 := by rw [hz1]
        rw [hzz] at hl2
        exact ⟨_, _, _, k, ⟨_, hv1, Or.inr ⟨_, rfl, _, hl2⟩⟩, ⟨rfl, _, (lb_ss hq1).trans hz1, hp11, hS11⟩⟩
theorem md_suml {X : nt_X} {d t x B Tb Sg Ln : Nat} {f : Nat → Int32} {M : nt_M} {J0 : Nat → Nat → Int32} {o : Option Value × nt_M} (hP : md_P M J0 f t x B Tb Sg Ln) (hB : lb_by f t) : ∀ (c q m : Nat) (e : Nat × (Nat → Int32)) (J : Nat → Nat → Int32) (s0 : Nat × (Nat → Int32)) (s9 : Int32), t - lb_s f t q < c → md_S J0 B Sg Ln x q 0 m e J → q ≤ t → nt_rn X d 151 (9, [(1, .int s9), (0, .ref B)], [], me_w M J) o → ∃ r a J', o = (some (.int a), me_w M J') ∧ (∃ k, lb_lp f t (lb_te f t) (Int32.ofInt 10) (Int32.ofInt 11) k (lb_s f t q, m, (s0, e)) r) ∧ md_Q J0 B Sg Ln x t f r a J' := by
  have t4 : t ≤ 400 := hP.2.2.2.2.2.1
  intro cc
  induction cc with
  | zero => intro q m e J s0 s9 hc; omega
  | succ cc ih =>
    intro q m e J s0 s9 hcc hS hp k
    have k := ly_revb 1 (c' := (10, [(1, .int (s9)), (0, .ref B)], [.ref B], me_w M J)) rfl k
    obtain ⟨d1, o1, ed, kc, k⟩ := lz_c (g := 136) (q := 1) (vs := [.ref B]) (rest := []) rfl rfl (by decide) (Or.inr (Or.inl ⟨_, rfl, rfl⟩)) rfl k
    have e1 := md_see hP hS hp kc
    subst e1
    have hS10 := md_Sq (y := lb_s f t q) hP hS
    have hp10 : lb_s f t q ≤ t := (lb_s_le (t - q) q (by omega)).2
    have k : nt_rn X _ 151 (13, [(1, .int (s9)), (0, .ref B)], [.int (lb_g f t (lb_s f t q))], me_w M (nt_u J B 15 (nI (lb_s f t q)))) _ := k
    have k := ly_revb 2 (c' := (if (lb_g f t (lb_s f t q)) = (Int32.ofInt 43) then 27 else 18, [(1, .int (s9)), (0, .ref B)], [], me_w M (nt_u J B 15 (nI (lb_s f t q))))) rfl k
    by_cases h15 : lb_g f t (lb_s f t q) = Int32.ofInt 43
    · rw [if_pos (show (lb_g f t (lb_s f t q)) = (Int32.ofInt 43) from h15)] at k
      have k := ly_revb 1 (c' := (28, [(1, .int (s9)), (0, .ref B)], [.ref B], me_w M (nt_u J B 15 (nI (lb_s f t q))))) rfl k
      have k := lz_get (a := B) (g := 1100) (M := me_w M (nt_u J B 15 (nI (lb_s f t q)))) (v := .ref Tb) rfl (nt_gfR rfl hP.1.1) k
      have k := ly_revb 1 (c' := (32, [(1, .int (s9)), (0, .ref B)], [.ref B, .ref Tb], me_w M (nt_u J B 15 (nI (lb_s f t q))))) rfl k
      have k := lz_get (a := B) (g := 1115) (M := me_w M (nt_u J B 15 (nI (lb_s f t q)))) (v := .int (nI (lb_s f t q))) rfl (congrArg Value.int (hS10.1)) k
      have k := me_bald (q := (lb_s f t q)) (v := f ((lb_s f t q))) rfl (rfl) (by omega) (md_f hP hS10 ((lb_s f t q))) k
      have k := ly_revb 2 (c' := (if (f ((lb_s f t q))) = (Int32.ofInt 43) then 41 else 45, [(1, .int (s9)), (0, .ref B)], [], me_w M (nt_u J B 15 (nI (lb_s f t q))))) rfl k
      have hlt : lb_s f t q < t := lb_g_lt (by rw [h15]; decide)
      rw [if_pos (show (f ((lb_s f t q))) = (Int32.ofInt 43) from lb_g1 hB hlt (by decide) (by decide) h15)] at k
      have k := ly_revb 5 (c' := (49, [(1, .int (Int32.ofInt 2)), (0, .ref B)], [.ref B, .ref B], me_w M (nt_u J B 15 (nI (lb_s f t q))))) rfl k
      have k := lz_get (a := B) (g := 1115) (M := me_w M (nt_u J B 15 (nI (lb_s f t q)))) (v := .int (nI (lb_s f t q))) rfl (congrArg Value.int (hS10.1)) k
      have k := ly_revb 2 (c' := (54, [(1, .int (Int32.ofInt 2)), (0, .ref B)], [.int ((nI (lb_s f t q)) + (Int32.ofInt 1)), .ref B], me_w M (nt_u J B 15 (nI (lb_s f t q))))) rfl k
      rw [show ((nI (lb_s f t q)) + (Int32.ofInt 1) : Int32) = nI ((lb_s f t q) + 1) from me_add (k := 1)] at k
      have k := me_put rfl (by decide) k
      have k : nt_rn X _ 151 (57, [(1, .int (Int32.ofInt 2)), (0, .ref B)], [], me_w M (nt_u (nt_u J B 15 (nI (lb_s f t q))) B 15 (nI ((lb_s f t q) + 1)))) _ := k
      have hV0 := md_Sq (y := lb_s f t q + 1) hP hS10
      have k := ly_revb 1 (c' := (58, [(1, .int (Int32.ofInt 2)), (0, .ref B)], [.ref B], me_w M (nt_u (nt_u J B 15 (nI (lb_s f t q))) B 15 (nI ((lb_s f t q) + 1))))) rfl k
      obtain ⟨d1, o1, ed, kc, k⟩ := lz_c (g := 152) (q := 1) (vs := [.ref B]) (rest := []) rfl rfl (by decide) (Or.inr (Or.inl ⟨_, rfl, rfl⟩)) rfl k
      obtain ⟨r1, a1, J1, e1, hv1, hQ1⟩ := md_term (s0 := s0) hP hB hV0 (show lb_s f t q + 1 ≤ t from hlt) kc
      subst e1
      rcases r1 with c | z1
      · obtain ⟨hc, rfl, q1, m1, e1, hT1, hq1⟩ := hQ1
        have k : nt_rn X _ 151 (61, [(1, .int (Int32.ofInt 2)), (0, .ref B)], [.int (Int32.ofInt 0)], me_w M J1) _ := k
        have k := ly_revb 1 (c' := (if (Int32.ofInt 0) = 0 then 64 else 66, [(1, .int (Int32.ofInt 2)), (0, .ref B)], [], me_w M J1)) rfl k
        rw [if_pos (show (Int32.ofInt 0) = 0 from by decide)] at k
        have k := ly_revb 1 (c' := (65, [(1, .int (Int32.ofInt 2)), (0, .ref B)], [.int (Int32.ofInt 0)], me_w M J1)) rfl k
        have k := lz_ri rfl (by decide) k
        have ho : lb_op (lb_g f t (lb_s f t q)) = Int32.ofInt 10 := by rw [h15]; decide
        have hl2 : lb_lp f t (lb_te f t) (Int32.ofInt 10) (Int32.ofInt 11) 1 (lb_s f t q, m, (s0, e)) (.inl c) := Or.inr ⟨Or.inl ho, _, hv1, Or.inl ⟨c, rfl, rfl⟩⟩
        exact ⟨_, _, _, k, ⟨_, hl2⟩, ⟨hc, rfl, _, _, _, hT1, hq1⟩⟩
      · obtain ⟨rfl, q1, hz1, hq1, hT1⟩ := hQ1
        have k : nt_rn X _ 151 (61, [(1, .int (Int32.ofInt 2)), (0, .ref B)], [.int (Int32.ofInt 1)], me_w M J1) _ := k
        have k := ly_revb 1 (c' := (if (Int32.ofInt 1) = 0 then 64 else 66, [(1, .int (Int32.ofInt 2)), (0, .ref B)], [], me_w M J1)) rfl k
        rw [if_neg (show ¬ ((Int32.ofInt 1) = 0) from by decide)] at k
        have k := ly_revb 3 (c' := (69, [(1, .int (Int32.ofInt 2)), (0, .ref B)], [.int (Int32.ofInt 0), .int (Int32.ofInt 2), .ref B], me_w M J1)) rfl k
        obtain ⟨d1, o1, ed, kc, k⟩ := lz_c (g := 155) (q := 1) (vs := [.ref B, .int (Int32.ofInt 2), .int (Int32.ofInt 0)]) (rest := []) rfl rfl (by decide) (Or.inr (Or.inl ⟨_, rfl, rfl⟩)) rfl k
        obtain ⟨hb, e1⟩ := md_puts hP hT1 hq1 kc
        subst e1
        have hU1 := md_Se (y := (Int32.ofInt 2) + Int32.ofInt 16 * (Int32.ofInt 0)) hP hT1 hb
        have k : nt_rn X _ 151 (72, [(1, .int (Int32.ofInt 2)), (0, .ref B)], [], me_w M (nt_u (nt_u J1 Sg (400 * x + z1.2.2.2.1) ((Int32.ofInt 2) + Int32.ofInt 16 * (Int32.ofInt 0))) Ln x (nI (z1.2.2.2.1 + 1)))) _ := k
        have k := ly_revb 1 (c' := (9, [(1, .int (Int32.ofInt 2)), (0, .ref B)], [], me_w M (nt_u (nt_u J1 Sg (400 * x + z1.2.2.2.1) ((Int32.ofInt 2) + Int32.ofInt 16 * (Int32.ofInt 0))) Ln x (nI (z1.2.2.2.1 + 1))))) rfl k
        have hup := lb_te_up ((lb_s_le (f := f) (t := t) (t - (lb_s f t q + 1)) (lb_s f t q + 1) (by omega)).2) hv1
        have hsl := lb_s_le (f := f) (t := t) (t - (lb_s f t q + 1)) (lb_s f t q + 1) (by omega)
        dsimp only at hup
        obtain ⟨r, a, J9, e9, ⟨kk, hl⟩, hQ⟩ := ih q1 _ _ _ (lb_e z1.2.2.1 (Int32.ofInt 10)) _ (by rw [hz1]; omega) hU1 hq1 k
        rw [hz1, ← lb_ew_c (e := z1.2.2) (w := Int32.ofInt 10) (by decide) (by decide)] at hl
        have ho : lb_op (lb_g f t (lb_s f t q)) = Int32.ofInt 10 := by rw [h15]; decide
        have hl2 : lb_lp f t (lb_te f t) (Int32.ofInt 10) (Int32.ofInt 11) (kk + 1) (lb_s f t q, m, (s0, e)) r := Or.inr ⟨Or.inl ho, _, hv1, Or.inr ⟨_, rfl, by dsimp only; rw [ho]; exact hl⟩⟩
        exact ⟨_, _, _, e9, ⟨_, hl2⟩, hQ⟩
    · rw [if_neg (show ¬ ((lb_g f t (lb_s f t q)) = (Int32.ofInt 43)) from h15)] at k
      have k := ly_revb 1 (c' := (19, [(1, .int (s9)), (0, .ref B)], [.ref B], me_w M (nt_u J B 15 (nI (lb_s f t q))))) rfl k
      obtain ⟨d1, o1, ed, kc, k⟩ := lz_c (g := 136) (q := 1) (vs := [.ref B]) (rest := []) rfl rfl (by decide) (Or.inr (Or.inl ⟨_, rfl, rfl⟩)) rfl k
      have e1 := md_see hP hS10 hp10 kc
      rw [lb_ss hp, me_uu] at e1
      subst e1
      have k : nt_rn X _ 151 (22, [(1, .int (s9)), (0, .ref B)], [.int (lb_g f t (lb_s f t q))], me_w M (nt_u J B 15 (nI (lb_s f t q)))) _ := k
      have k := ly_revb 2 (c' := (if (lb_g f t (lb_s f t q)) = (Int32.ofInt 45) then 27 else 75, [(1, .int (s9)), (0, .ref B)], [], me_w M (nt_u J B 15 (nI (lb_s f t q))))) rfl k
      by_cases h24 : lb_g f t (lb_s f t q) = Int32.ofInt 45
      · rw [if_pos (show (lb_g f t (lb_s f t q)) = (Int32.ofInt 45) from h24)] at k
        have k := ly_revb 1 (c' := (28, [(1, .int (s9)), (0, .ref B)], [.ref B], me_w M (nt_u J B 15 (nI (lb_s f t q))))) rfl k
        have k := lz_get (a := B) (g := 1100) (M := me_w M (nt_u J B 15 (nI (lb_s f t q)))) (v := .ref Tb) rfl (nt_gfR rfl hP.1.1) k
        have k := ly_revb 1 (c' := (32, [(1, .int (s9)), (0, .ref B)], [.ref B, .ref Tb], me_w M (nt_u J B 15 (nI (lb_s f t q))))) rfl k
        have k := lz_get (a := B) (g := 1115) (M := me_w M (nt_u J B 15 (nI (lb_s f t q)))) (v := .int (nI (lb_s f t q))) rfl (congrArg Value.int (hS10.1)) k
        have k := me_bald (q := (lb_s f t q)) (v := f ((lb_s f t q))) rfl (rfl) (by omega) (md_f hP hS10 ((lb_s f t q))) k
        have k := ly_revb 2 (c' := (if (f ((lb_s f t q))) = (Int32.ofInt 43) then 41 else 45, [(1, .int (s9)), (0, .ref B)], [], me_w M (nt_u J B 15 (nI (lb_s f t q))))) rfl k
        have hlt : lb_s f t q < t := lb_g_lt (by rw [h24]; decide)
        rw [if_neg (show ¬ ((f ((lb_s f t q))) = (Int32.ofInt 43)) from fun c => h15 (lb_g2 hB hlt (by decide) c))] at k
        have k := ly_revb 4 (c' := (49, [(1, .int (Int32.ofInt 3)), (0, .ref B)], [.ref B, .ref B], me_w M (nt_u J B 15 (nI (lb_s f t q))))) rfl k
        have k := lz_get (a := B) (g := 1115) (M := me_w M (nt_u J B 15 (nI (lb_s f t q)))) (v := .int (nI (lb_s f t q))) rfl (congrArg Value.int (hS10.1)) k
        have k := ly_revb 2 (c' := (54, [(1, .int (Int32.ofInt 3)), (0, .ref B)], [.int ((nI (lb_s f t q)) + (Int32.ofInt 1)), .ref B], me_w M (nt_u J B 15 (nI (lb_s f t q))))) rfl k
        rw [show ((nI (lb_s f t q)) + (Int32.ofInt 1) : Int32) = nI ((lb_s f t q) + 1) from me_add (k := 1)] at k
        have k := me_put rfl (by decide) k
        have k : nt_rn X _ 151 (57, [(1, .int (Int32.ofInt 3)), (0, .ref B)], [], me_w M (nt_u (nt_u J B 15 (nI (lb_s f t q))) B 15 (nI ((lb_s f t q) + 1)))) _ := k
        have hV0 := md_Sq (y := lb_s f t q + 1) hP hS10
        have k := ly_revb 1 (c' := (58, [(1, .int (Int32.ofInt 3)), (0, .ref B)], [.ref B], me_w M (nt_u (nt_u J B 15 (nI (lb_s f t q))) B 15 (nI ((lb_s f t q) + 1))))) rfl k
        obtain ⟨d1, o1, ed, kc, k⟩ := lz_c (g := 152) (q := 1) (vs := [.ref B]) (rest := []) rfl rfl (by decide) (Or.inr (Or.inl ⟨_, rfl, rfl⟩)) rfl k
        obtain ⟨r1, a1, J1, e1, hv1, hQ1⟩ := md_term (s0 := s0) hP hB hV0 (show lb_s f t q + 1 ≤ t from hlt) kc
        subst e1
        rcases r1 with c | z1
        · obtain ⟨hc, rfl, q1, m1, e1, hT1, hq1⟩ := hQ1
          have k : nt_rn X _ 151 (61, [(1, .int (Int32.ofInt 3)), (0, .ref B)], [.int (Int32.ofInt 0)], me_w M J1) _ := k
          have k := ly_revb 1 (c' := (if (Int32.ofInt 0) = 0 then 64 else 66, [(1, .int (Int32.ofInt 3)), (0, .ref B)], [], me_w M J1)) rfl k
          rw [if_pos (show (Int32.ofInt 0) = 0 from by decide)] at k
          have k := ly_revb 1 (c' := (65, [(1, .int (Int32.ofInt 3)), (0, .ref B)], [.int (Int32.ofInt 0)], me_w M J1)) rfl k
          have k := lz_ri rfl (by decide) k
          have ho : lb_op (lb_g f t (lb_s f t q)) = Int32.ofInt 11 := by rw [h24]; decide
          have hl2 : lb_lp f t (lb_te f t) (Int32.ofInt 10) (Int32.ofInt 11) 1 (lb_s f t q, m, (s0, e)) (.inl c) := Or.inr ⟨Or.inr ho, _, hv1, Or.inl ⟨c, rfl, rfl⟩⟩
          exact ⟨_, _, _, k, ⟨_, hl2⟩, ⟨hc, rfl, _, _, _, hT1, hq1⟩⟩
        · obtain ⟨rfl, q1, hz1, hq1, hT1⟩ := hQ1
          have k : nt_rn X _ 151 (61, [(1, .int (Int32.ofInt 3)), (0, .ref B)], [.int (Int32.ofInt 1)], me_w M J1) _ := k
          have k := ly_revb 1 (c' := (if (Int32.ofInt 1) = 0 then 64 else 66, [(1, .int (Int32.ofInt 3)), (0, .ref B)], [], me_w M J1)) rfl k
          rw [if_neg (show ¬ ((Int32.ofInt 1) = 0) from by decide)] at k
          have k := ly_revb 3 (c' := (69, [(1, .int (Int32.ofInt 3)), (0, .ref B)], [.int (Int32.ofInt 0), .int (Int32.ofInt 3), .ref B], me_w M J1)) rfl k
          obtain ⟨d1, o1, ed, kc, k⟩ := lz_c (g := 155) (q := 1) (vs := [.ref B, .int (Int32.ofInt 3), .int (Int32.ofInt 0)]) (rest := []) rfl rfl (by decide) (Or.inr (Or.inl ⟨_, rfl, rfl⟩)) rfl k
          obtain ⟨hb, e1⟩ := md_puts hP hT1 hq1 kc
          subst e1
          have hU1 := md_Se (y := (Int32.ofInt 3) + Int32.ofInt 16 * (Int32.ofInt 0)) hP hT1 hb
          have k : nt_rn X _ 151 (72, [(1, .int (Int32.ofInt 3)), (0, .ref B)], [], me_w M (nt_u (nt_u J1 Sg (400 * x + z1.2.2.2.1) ((Int32.ofInt 3) + Int32.ofInt 16 * (Int32.ofInt 0))) Ln x (nI (z1.2.2.2.1 + 1)))) _ := k
          have k := ly_revb 1 (c' := (9, [(1, .int (Int32.ofInt 3)), (0, .ref B)], [], me_w M (nt_u (nt_u J1 Sg (400 * x + z1.2.2.2.1) ((Int32.ofInt 3) + Int32.ofInt 16 * (Int32.ofInt 0))) Ln x (nI (z1.2.2.2.1 + 1))))) rfl k
          have hup := lb_te_up ((lb_s_le (f := f) (t := t) (t - (lb_s f t q + 1)) (lb_s f t q + 1) (by omega)).2) hv1
          have hsl := lb_s_le (f := f) (t := t) (t - (lb_s f t q + 1)) (lb_s f t q + 1) (by omega)
          dsimp only at hup
          obtain ⟨r, a, J9, e9, ⟨kk, hl⟩, hQ⟩ := ih q1 _ _ _ (lb_e z1.2.2.1 (Int32.ofInt 11)) _ (by rw [hz1]; omega) hU1 hq1 k
          rw [hz1, ← lb_ew_c (e := z1.2.2) (w := Int32.ofInt 11) (by decide) (by decide)] at hl
          have ho : lb_op (lb_g f t (lb_s f t q)) = Int32.ofInt 11 := by rw [h24]; decide
          have hl2 : lb_lp f t (lb_te f t) (Int32.ofInt 10) (Int32.ofInt 11) (kk + 1) (lb_s f t q, m, (s0, e)) r := Or.inr ⟨Or.inr ho, _, hv1, Or.inr ⟨_, rfl, by dsimp only; rw [ho]; exact hl⟩⟩
          exact ⟨_, _, _, e9, ⟨_, hl2⟩, hQ⟩
      · rw [if_neg (show ¬ ((lb_g f t (lb_s f t q)) = (Int32.ofInt 45)) from h24)] at k
        have k := ly_revb 1 (c' := (76, [(1, .int (s9)), (0, .ref B)], [.int (Int32.ofInt 1)], me_w M (nt_u J B 15 (nI (lb_s f t q))))) rfl k
        have k := lz_ri rfl (by decide) k
        have hno : ¬ (lb_op (lb_g f t (lb_s f t q)) = Int32.ofInt 10 ∨ lb_op (lb_g f t (lb_s f t q)) = Int32.ofInt 11) := fun hh => hh.elim (fun c => h15 (lb_op_i.1 c)) (fun c => h24 (lb_op_i.2.1 c))
        have hl2 : lb_lp f t (lb_te f t) (Int32.ofInt 10) (Int32.ofInt 11) 1 (lb_s f t q, m, (s0, e)) (.inr (lb_s f t q, m, (s0, e))) := Or.inl ⟨hno, rfl⟩
        exact ⟨_, _, _, k, ⟨_, hl2⟩, ⟨rfl, _, lb_ss hp, hp10, hS10⟩⟩
theorem md_sum0 {X : nt_X} {d t x B Tb Sg Ln q m : Nat} {f : Nat → Int32} {M : nt_M} {J0 J : Nat → Nat → Int32} {o : Option Value × nt_M} {e : Nat × (Nat → Int32)} {s0 : Nat × (Nat → Int32)} (hP : md_P M J0 f t x B Tb Sg Ln) (hB : lb_by f t) (hS : md_S J0 B Sg Ln x q 0 m e J) (hp : q ≤ t) (k : nt_ev X d 151 [.ref B] (me_w M J) o) : ∃ r a J', o = (some (.int a), me_w M J') ∧ lb_su f t (lb_s f t q, m, (s0, e)) r ∧ md_Q J0 B Sg Ln x t f r a J' := by
  have k : nt_rn X d 151 (0, [(0, .ref B)], [], me_w M J) o := k
  have t4 : t ≤ 400 := hP.2.2.2.2.2.1
  have k := ly_revb 1 (c' := (1, [(0, .ref B)], [.ref B], me_w M J)) rfl k
  obtain ⟨d1, o1, ed, kc, k⟩ := lz_c (g := 152) (q := 1) (vs := [.ref B]) (rest := []) rfl rfl (by decide) (Or.inr (Or.inl ⟨_, rfl, rfl⟩)) rfl k
  obtain ⟨r1, a1, J1, e1, hv1, hQ1⟩ := md_term (s0 := s0) hP hB hS hp kc
  subst e1
  rcases r1 with c | z1
  · obtain ⟨hc, rfl, q1, m1, e1, hT1, hq1⟩ := hQ1
    have k : nt_rn X _ 151 (4, [(0, .ref B)], [.int (Int32.ofInt 0)], me_w M J1) _ := k
    have k := ly_revb 1 (c' := (if (Int32.ofInt 0) = 0 then 7 else 9, [(0, .ref B)], [], me_w M J1)) rfl k
    rw [if_pos (show (Int32.ofInt 0) = 0 from by decide)] at k
    have k := ly_revb 1 (c' := (8, [(0, .ref B)], [.int (Int32.ofInt 0)], me_w M J1)) rfl k
    have k := lz_ri rfl (by decide) k
    exact ⟨.inl c, _, _, k, ⟨_, hv1, Or.inl ⟨c, rfl, rfl⟩⟩, hc, rfl, _, _, _, hT1, hq1⟩
  · obtain ⟨rfl, q1, hz1, hq1, hT1⟩ := hQ1
    have k : nt_rn X _ 151 (4, [(0, .ref B)], [.int (Int32.ofInt 1)], me_w M J1) _ := k
    have k := ly_revb 1 (c' := (if (Int32.ofInt 1) = 0 then 7 else 9, [(0, .ref B)], [], me_w M J1)) rfl k
    rw [if_neg (show ¬ ((Int32.ofInt 1) = 0) from by decide)] at k
    have k := ly_revb 1 (c' := (10, [(0, .ref B)], [.ref B], me_w M J1)) rfl k
    obtain ⟨d1, o1, ed, kc, k⟩ := lz_c (g := 136) (q := 1) (vs := [.ref B]) (rest := []) rfl rfl (by decide) (Or.inr (Or.inl ⟨_, rfl, rfl⟩)) rfl k
    have e1 := md_see hP hT1 hq1 kc
    subst e1
    have hS11 := md_Sq (y := lb_s f t q1) hP hT1
    have hp11 : lb_s f t q1 ≤ t := (lb_s_le (t - q1) q1 (by omega)).2
    have k : nt_rn X _ 151 (13, [(0, .ref B)], [.int (lb_g f t (lb_s f t q1))], me_w M (nt_u J1 B 15 (nI (lb_s f t q1)))) _ := k
    have k := ly_revb 2 (c' := (if (lb_g f t (lb_s f t q1)) = (Int32.ofInt 43) then 27 else 18, [(0, .ref B)], [], me_w M (nt_u J1 B 15 (nI (lb_s f t q1))))) rfl k
    by_cases h15 : lb_g f t (lb_s f t q1) = Int32.ofInt 43
    · rw [if_pos (show (lb_g f t (lb_s f t q1)) = (Int32.ofInt 43) from h15)] at k
      have k := ly_revb 1 (c' := (28, [(0, .ref B)], [.ref B], me_w M (nt_u J1 B 15 (nI (lb_s f t q1))))) rfl k
      have k := lz_get (a := B) (g := 1100) (M := me_w M (nt_u J1 B 15 (nI (lb_s f t q1)))) (v := .ref Tb) rfl (nt_gfR rfl hP.1.1) k
      have k := ly_revb 1 (c' := (32, [(0, .ref B)], [.ref B, .ref Tb], me_w M (nt_u J1 B 15 (nI (lb_s f t q1))))) rfl k
      have k := lz_get (a := B) (g := 1115) (M := me_w M (nt_u J1 B 15 (nI (lb_s f t q1)))) (v := .int (nI (lb_s f t q1))) rfl (congrArg Value.int (hS11.1)) k
      have k := me_bald (q := (lb_s f t q1)) (v := f ((lb_s f t q1))) rfl (rfl) (by omega) (md_f hP hS11 ((lb_s f t q1))) k
      have k := ly_revb 2 (c' := (if (f ((lb_s f t q1))) = (Int32.ofInt 43) then 41 else 45, [(0, .ref B)], [], me_w M (nt_u J1 B 15 (nI (lb_s f t q1))))) rfl k
      have hlt : lb_s f t q1 < t := lb_g_lt (by rw [h15]; decide)
      rw [if_pos (show (f ((lb_s f t q1))) = (Int32.ofInt 43) from lb_g1 hB hlt (by decide) (by decide) h15)] at k
      have k := ly_revb 5 (c' := (49, [(1, .int (Int32.ofInt 2)), (0, .ref B)], [.ref B, .ref B], me_w M (nt_u J1 B 15 (nI (lb_s f t q1))))) rfl k
      have k := lz_get (a := B) (g := 1115) (M := me_w M (nt_u J1 B 15 (nI (lb_s f t q1)))) (v := .int (nI (lb_s f t q1))) rfl (congrArg Value.int (hS11.1)) k
      have k := ly_revb 2 (c' := (54, [(1, .int (Int32.ofInt 2)), (0, .ref B)], [.int ((nI (lb_s f t q1)) + (Int32.ofInt 1)), .ref B], me_w M (nt_u J1 B 15 (nI (lb_s f t q1))))) rfl k
      rw [show ((nI (lb_s f t q1)) + (Int32.ofInt 1) : Int32) = nI ((lb_s f t q1) + 1) from me_add (k := 1)] at k
      have k := me_put rfl (by decide) k
      have k : nt_rn X _ 151 (57, [(1, .int (Int32.ofInt 2)), (0, .ref B)], [], me_w M (nt_u (nt_u J1 B 15 (nI (lb_s f t q1))) B 15 (nI ((lb_s f t q1) + 1)))) _ := k
      have hV1 := md_Sq (y := lb_s f t q1 + 1) hP hS11
      have k := ly_revb 1 (c' := (58, [(1, .int (Int32.ofInt 2)), (0, .ref B)], [.ref B], me_w M (nt_u (nt_u J1 B 15 (nI (lb_s f t q1))) B 15 (nI ((lb_s f t q1) + 1))))) rfl k
      obtain ⟨d1, o1, ed, kc, k⟩ := lz_c (g := 152) (q := 1) (vs := [.ref B]) (rest := []) rfl rfl (by decide) (Or.inr (Or.inl ⟨_, rfl, rfl⟩)) rfl k
      obtain ⟨r2, a2, J2, e1, hv2, hQ2⟩ := md_term (s0 := z1.2.2.1) hP hB hV1 (show lb_s f t q1 + 1 ≤ t from hlt) kc
      subst e1
      rcases r2 with c | z2
      · obtain ⟨hc, rfl, q2, m2, e2, hT2, hq2⟩ := hQ2
        have k : nt_rn X _ 151 (61, [(1, .int (Int32.ofInt 2)), (0, .ref B)], [.int (Int32.ofInt 0)], me_w M J2) _ := k
        have k := ly_revb 1 (c' := (if (Int32.ofInt 0) = 0 then 64 else 66, [(1, .int (Int32.ofInt 2)), (0, .ref B)], [], me_w M J2)) rfl k
        rw [if_pos (show (Int32.ofInt 0) = 0 from by decide)] at k
        have k := ly_revb 1 (c' := (65, [(1, .int (Int32.ofInt 2)), (0, .ref B)], [.int (Int32.ofInt 0)], me_w M J2)) rfl k
        have k := lz_ri rfl (by decide) k
        have ho : lb_op (lb_g f t (lb_s f t q1)) = Int32.ofInt 10 := by rw [h15]; decide
        have hl2 : lb_lp f t (lb_te f t) (Int32.ofInt 10) (Int32.ofInt 11) 1 (lb_s f t q1, z1.2.1, z1.2.2) (.inl c) := Or.inr ⟨Or.inl ho, _, hv2, Or.inl ⟨c, rfl, rfl⟩⟩
        have hzz : (lb_s f t q1, z1.2.1, z1.2.2) = z1 := by rw [hz1]
        rw [hzz] at hl2
        exact ⟨_, _, _, k, ⟨_, hv1, Or.inr ⟨_, rfl, _, hl2⟩⟩, ⟨hc, rfl, _, _, _, hT2, hq2⟩⟩
      · obtain ⟨rfl, q2, hz2, hq2, hT2⟩ := hQ2
        have k : nt_rn X _ 151 (61, [(1, .int (Int32.ofInt 2)), (0, .ref B)], [.int (Int32.ofInt 1)], me_w M J2) _ := k
        have k := ly_revb 1 (c' := (if (Int32.ofInt 1) = 0 then 64 else 66, [(1, .int (Int32.ofInt 2)), (0, .ref B)], [], me_w M J2)) rfl k
        rw [if_neg (show ¬ ((Int32.ofInt 1) = 0) from by decide)] at k
        have k := ly_revb 3 (c' := (69, [(1, .int (Int32.ofInt 2)), (0, .ref B)], [.int (Int32.ofInt 0), .int (Int32.ofInt 2), .ref B], me_w M J2)) rfl k
        obtain ⟨d1, o1, ed, kc, k⟩ := lz_c (g := 155) (q := 1) (vs := [.ref B, .int (Int32.ofInt 2), .int (Int32.ofInt 0)]) (rest := []) rfl rfl (by decide) (Or.inr (Or.inl ⟨_, rfl, rfl⟩)) rfl k
        obtain ⟨hb, e1⟩ := md_puts hP hT2 hq2 kc
        subst e1
        have hU2 := md_Se (y := (Int32.ofInt 2) + Int32.ofInt 16 * (Int32.ofInt 0)) hP hT2 hb
        have k : nt_rn X _ 151 (72, [(1, .int (Int32.ofInt 2)), (0, .ref B)], [], me_w M (nt_u (nt_u J2 Sg (400 * x + z2.2.2.2.1) ((Int32.ofInt 2) + Int32.ofInt 16 * (Int32.ofInt 0))) Ln x (nI (z2.2.2.2.1 + 1)))) _ := k
        have k := ly_revb 1 (c' := (9, [(1, .int (Int32.ofInt 2)), (0, .ref B)], [], me_w M (nt_u (nt_u J2 Sg (400 * x + z2.2.2.2.1) ((Int32.ofInt 2) + Int32.ofInt 16 * (Int32.ofInt 0))) Ln x (nI (z2.2.2.2.1 + 1))))) rfl k
        have hup := lb_te_up ((lb_s_le (f := f) (t := t) (t - (lb_s f t q1 + 1)) (lb_s f t q1 + 1) (by omega)).2) hv2
        have hsl := lb_s_le (f := f) (t := t) (t - (lb_s f t q1 + 1)) (lb_s f t q1 + 1) (by omega)
        dsimp only at hup
        obtain ⟨r, a, J9, e9, ⟨kk, hl⟩, hQ⟩ := md_suml hP hB (t + 1 - 0 * z2.1) q2 _ _ _ (lb_e z2.2.2.1 (Int32.ofInt 10)) _ (by rw [hz2]; omega) hU2 hq2 k
        rw [hz2, ← lb_ew_c (e := z2.2.2) (w := Int32.ofInt 10) (by decide) (by decide)] at hl
        have ho : lb_op (lb_g f t (lb_s f t q1)) = Int32.ofInt 10 := by rw [h15]; decide
        have hl2 : lb_lp f t (lb_te f t) (Int32.ofInt 10) (Int32.ofInt 11) (kk + 1) (lb_s f t q1, z1.2.1, z1.2.2) r := Or.inr ⟨Or.inl ho, _, hv2, Or.inr ⟨_, rfl, by dsimp only; rw [ho]; exact hl⟩⟩
        have hzz : (lb_s f t q1, z1.2.1, z1.2.2) = z1 := by rw [hz1]
        rw [hzz] at hl2
        exact ⟨_, _, _, e9, ⟨_, hv1, Or.inr ⟨_, rfl, _, hl2⟩⟩, hQ⟩
    · rw [if_neg (show ¬ ((lb_g f t (lb_s f t q1)) = (Int32.ofInt 43)) from h15)] at k
      have k := ly_revb 1 (c' := (19, [(0, .ref B)], [.ref B], me_w M (nt_u J1 B 15 (nI (lb_s f t q1))))) rfl k
      obtain ⟨d1, o1, ed, kc, k⟩ := lz_c (g := 136) (q := 1) (vs := [.ref B]) (rest := []) rfl rfl (by decide) (Or.inr (Or.inl ⟨_, rfl, rfl⟩)) rfl k
      have e1 := md_see hP hS11 hp11 kc
      rw [lb_ss hq1, me_uu] at e1
      subst e1
      have k : nt_rn X _ 151 (22, [(0, .ref B)], [.int (lb_g f t (lb_s f t q1))], me_w M (nt_u J1 B 15 (nI (lb_s f t q1)))) _ := k
      have k := ly_revb 2 (c' := (if (lb_g f t (lb_s f t q1)) = (Int32.ofInt 45) then 27 else 75, [(0, .ref B)], [], me_w M (nt_u J1 B 15 (nI (lb_s f t q1))))) rfl k
      by_cases h24 : lb_g f t (lb_s f t q1) = Int32.ofInt 45
      · rw [if_pos (show (lb_g f t (lb_s f t q1)) = (Int32.ofInt 45) from h24)] at k
        have k := ly_revb 1 (c' := (28, [(0, .ref B)], [.ref B], me_w M (nt_u J1 B 15 (nI (lb_s f t q1))))) rfl k
        have k := lz_get (a := B) (g := 1100) (M := me_w M (nt_u J1 B 15 (nI (lb_s f t q1)))) (v := .ref Tb) rfl (nt_gfR rfl hP.1.1) k
        have k := ly_revb 1 (c' := (32, [(0, .ref B)], [.ref B, .ref Tb], me_w M (nt_u J1 B 15 (nI (lb_s f t q1))))) rfl k
        have k := lz_get (a := B) (g := 1115) (M := me_w M (nt_u J1 B 15 (nI (lb_s f t q1)))) (v := .int (nI (lb_s f t q1))) rfl (congrArg Value.int (hS11.1)) k
        have k := me_bald (q := (lb_s f t q1)) (v := f ((lb_s f t q1))) rfl (rfl) (by omega) (md_f hP hS11 ((lb_s f t q1))) k
        have k := ly_revb 2 (c' := (if (f ((lb_s f t q1))) = (Int32.ofInt 43) then 41 else 45, [(0, .ref B)], [], me_w M (nt_u J1 B 15 (nI (lb_s f t q1))))) rfl k
        have hlt : lb_s f t q1 < t := lb_g_lt (by rw [h24]; decide)
        rw [if_neg (show ¬ ((f ((lb_s f t q1))) = (Int32.ofInt 43)) from fun c => h15 (lb_g2 hB hlt (by decide) c))] at k
        have k := ly_revb 4 (c' := (49, [(1, .int (Int32.ofInt 3)), (0, .ref B)], [.ref B, .ref B], me_w M (nt_u J1 B 15 (nI (lb_s f t q1))))) rfl k
        have k := lz_get (a := B) (g := 1115) (M := me_w M (nt_u J1 B 15 (nI (lb_s f t q1)))) (v := .int (nI (lb_s f t q1))) rfl (congrArg Value.int (hS11.1)) k
        have k := ly_revb 2 (c' := (54, [(1, .int (Int32.ofInt 3)), (0, .ref B)], [.int ((nI (lb_s f t q1)) + (Int32.ofInt 1)), .ref B], me_w M (nt_u J1 B 15 (nI (lb_s f t q1))))) rfl k
        rw [show ((nI (lb_s f t q1)) + (Int32.ofInt 1) : Int32) = nI ((lb_s f t q1) + 1) from me_add (k := 1)] at k
        have k := me_put rfl (by decide) k
        have k : nt_rn X _ 151 (57, [(1, .int (Int32.ofInt 3)), (0, .ref B)], [], me_w M (nt_u (nt_u J1 B 15 (nI (lb_s f t q1))) B 15 (nI ((lb_s f t q1) + 1)))) _ := k
        have hV1 := md_Sq (y := lb_s f t q1 + 1) hP hS11
        have k := ly_revb 1 (c' := (58, [(1, .int (Int32.ofInt 3)), (0, .ref B)], [.ref B], me_w M (nt_u (nt_u J1 B 15 (nI (lb_s f t q1))) B 15 (nI ((lb_s f t q1) + 1))))) rfl k
        obtain ⟨d1, o1, ed, kc, k⟩ := lz_c (g := 152) (q := 1) (vs := [.ref B]) (rest := []) rfl rfl (by decide) (Or.inr (Or.inl ⟨_, rfl, rfl⟩)) rfl k
        obtain ⟨r2, a2, J2, e1, hv2, hQ2⟩ := md_term (s0 := z1.2.2.1) hP hB hV1 (show lb_s f t q1 + 1 ≤ t from hlt) kc
        subst e1
        rcases r2 with c | z2
        · obtain ⟨hc, rfl, q2, m2, e2, hT2, hq2⟩ := hQ2
          have k : nt_rn X _ 151 (61, [(1, .int (Int32.ofInt 3)), (0, .ref B)], [.int (Int32.ofInt 0)], me_w M J2) _ := k
          have k := ly_revb 1 (c' := (if (Int32.ofInt 0) = 0 then 64 else 66, [(1, .int (Int32.ofInt 3)), (0, .ref B)], [], me_w M J2)) rfl k
          rw [if_pos (show (Int32.ofInt 0) = 0 from by decide)] at k
          have k := ly_revb 1 (c' := (65, [(1, .int (Int32.ofInt 3)), (0, .ref B)], [.int (Int32.ofInt 0)], me_w M J2)) rfl k
          have k := lz_ri rfl (by decide) k
          have ho : lb_op (lb_g f t (lb_s f t q1)) = Int32.ofInt 11 := by rw [h24]; decide
          have hl2 : lb_lp f t (lb_te f t) (Int32.ofInt 10) (Int32.ofInt 11) 1 (lb_s f t q1, z1.2.1, z1.2.2) (.inl c) := Or.inr ⟨Or.inr ho, _, hv2, Or.inl ⟨c, rfl, rfl⟩⟩
          have hzz : (lb_s f t q1, z1.2.1, z1.2.2) = z1 := by rw [hz1]
          rw [hzz] at hl2
          exact ⟨_, _, _, k, ⟨_, hv1, Or.inr ⟨_, rfl, _, hl2⟩⟩, ⟨hc, rfl, _, _, _, hT2, hq2⟩⟩
        · obtain ⟨rfl, q2, hz2, hq2, hT2⟩ := hQ2
          have k : nt_rn X _ 151 (61, [(1, .int (Int32.ofInt 3)), (0, .ref B)], [.int (Int32.ofInt 1)], me_w M J2) _ := k
          have k := ly_revb 1 (c' := (if (Int32.ofInt 1) = 0 then 64 else 66, [(1, .int (Int32.ofInt 3)), (0, .ref B)], [], me_w M J2)) rfl k
          rw [if_neg (show ¬ ((Int32.ofInt 1) = 0) from by decide)] at k
          have k := ly_revb 3 (c' := (69, [(1, .int (Int32.ofInt 3)), (0, .ref B)], [.int (Int32.ofInt 0), .int (Int32.ofInt 3), .ref B], me_w M J2)) rfl k
          obtain ⟨d1, o1, ed, kc, k⟩ := lz_c (g := 155) (q := 1) (vs := [.ref B, .int (Int32.ofInt 3), .int (Int32.ofInt 0)]) (rest := []) rfl rfl (by decide) (Or.inr (Or.inl ⟨_, rfl, rfl⟩)) rfl k
          obtain ⟨hb, e1⟩ := md_puts hP hT2 hq2 kc
          subst e1
          have hU2 := md_Se (y := (Int32.ofInt 3) + Int32.ofInt 16 * (Int32.ofInt 0)) hP hT2 hb
          have k : nt_rn X _ 151 (72, [(1, .int (Int32.ofInt 3)), (0, .ref B)], [], me_w M (nt_u (nt_u J2 Sg (400 * x + z2.2.2.2.1) ((Int32.ofInt 3) + Int32.ofInt 16 * (Int32.ofInt 0))) Ln x (nI (z2.2.2.2.1 + 1)))) _ := k
          have k := ly_revb 1 (c' := (9, [(1, .int (Int32.ofInt 3)), (0, .ref B)], [], me_w M (nt_u (nt_u J2 Sg (400 * x + z2.2.2.2.1) ((Int32.ofInt 3) + Int32.ofInt 16 * (Int32.ofInt 0))) Ln x (nI (z2.2.2.2.1 + 1))))) rfl k
          have hup := lb_te_up ((lb_s_le (f := f) (t := t) (t - (lb_s f t q1 + 1)) (lb_s f t q1 + 1) (by omega)).2) hv2
          have hsl := lb_s_le (f := f) (t := t) (t - (lb_s f t q1 + 1)) (lb_s f t q1 + 1) (by omega)
          dsimp only at hup
          obtain ⟨r, a, J9, e9, ⟨kk, hl⟩, hQ⟩ := md_suml hP hB (t + 1 - 0 * z2.1) q2 _ _ _ (lb_e z2.2.2.1 (Int32.ofInt 11)) _ (by rw [hz2]; omega) hU2 hq2 k
          rw [hz2, ← lb_ew_c (e := z2.2.2) (w := Int32.ofInt 11) (by decide) (by decide)] at hl
          have ho : lb_op (lb_g f t (lb_s f t q1)) = Int32.ofInt 11 := by rw [h24]; decide
          have hl2 : lb_lp f t (lb_te f t) (Int32.ofInt 10) (Int32.ofInt 11) (kk + 1) (lb_s f t q1, z1.2.1, z1.2.2) r := Or.inr ⟨Or.inr ho, _, hv2, Or.inr ⟨_, rfl, by dsimp only; rw [ho]; exact hl⟩⟩
          have hzz : (lb_s f t q1, z1.2.1, z1.2.2) = z1 := by rw [hz1]
          rw [hzz] at hl2
          exact ⟨_, _, _, e9, ⟨_, hv1, Or.inr ⟨_, rfl, _, hl2⟩⟩, hQ⟩
      · rw [if_neg (show ¬ ((lb_g f t (lb_s f t q1)) = (Int32.ofInt 45)) from h24)] at k
        have k := ly_revb 1 (c' := (76, [(0, .ref B)], [.int (Int32.ofInt 1)], me_w M (nt_u J1 B 15 (nI (lb_s f t q1))))) rfl k
        have k := lz_ri rfl (by decide) k
        have hno : ¬ (lb_op (lb_g f t (lb_s f t q1)) = Int32.ofInt 10 ∨ lb_op (lb_g f t (lb_s f t q1)) = Int32.ofInt 11) := fun hh => hh.elim (fun c => h15 (lb_op_i.1 c)) (fun c => h24 (lb_op_i.2.1 c))
        have hl2 : lb_lp f t (lb_te f t) (Int32.ofInt 10) (Int32.ofInt 11) 1 (lb_s f t q1, z1.2.1, z1.2.2) (.inr (lb_s f t q1, z1.2.1, z1.2.2)) := Or.inl ⟨hno, rfl⟩
        have hzz : (lb_s f t q1, z1.2.1, z1.2.2) = z1 := by rw [hz1]
        rw [hzz] at hl2
        exact ⟨_, _, _, k, ⟨_, hv1, Or.inr ⟨_, rfl, _, hl2⟩⟩, ⟨rfl, _, (lb_ss hq1).trans hz1, hp11, hS11⟩⟩
end
section
/-! the other side's tests, told purely: a stack of what waits -/
theorem lb_cm_det {f : Nat → Int32} {t p : Nat} {x x' : Int32} (h : lb_cm f t p x) (h' : lb_cm f t p x') : x = x' := by
  unfold lb_cm at h h'
  rcases h with ⟨g, n, e⟩ | ⟨g, n, e⟩ | ⟨g, e⟩ | ⟨g, n, e⟩ | ⟨g, n, e⟩ | ⟨g, e⟩ <;> rcases h' with ⟨g', n', e'⟩ | ⟨g', n', e'⟩ | ⟨g', e'⟩ | ⟨g', n', e'⟩ | ⟨g', n', e'⟩ | ⟨g', e'⟩
  all_goals first
    | (rw [e, e']; done)
    | (exact absurd n' n)
    | (exact absurd n n')
    | (exact absurd g g'.1)
    | (exact absurd g g'.2.1)
    | (exact absurd g g'.2.2)
    | (exact absurd g' g.1)
    | (exact absurd g' g.2.1)
    | (exact absurd g' g.2.2)
    | (rw [g] at g'; exact absurd g' (by decide))
theorem lb_cp_det {f : Nat → Int32} {t : Nat} {z : lb_Z} {x x' : Int32} {r r' : lb_Y} (h : lb_cp f t z x r) (h' : lb_cp f t z x' r') : x = x' ∧ r = r' := by
  obtain ⟨a, h⟩ := h
  obtain ⟨a', h'⟩ := h'
  have e := lb_cm_det a a'
  subst e
  refine ⟨rfl, ?_⟩
  rcases h with ⟨p, h⟩ | ⟨p, q, h⟩ | ⟨p, q, h⟩ <;> rcases h' with ⟨p', h'⟩ | ⟨p', q', h'⟩ | ⟨p', q', h'⟩
  all_goals first
    | (rw [h, h']; done)
    | (exact absurd p p')
    | (exact absurd p' p)
    | omega
theorem lb_fa_det {f : Nat → Int32} {t : Nat} {z : lb_Z} {r r' : lb_Y} (h : lb_fa f t z r) (h' : lb_fa f t z r') : r = r' := by
  obtain ⟨r1, a, h⟩ := h
  obtain ⟨r1', a', h'⟩ := h'
  have e := lb_sum_det a a'
  subst e
  rcases h with ⟨c, e1, e2⟩ | ⟨z1, e1, x, r2, b, h⟩ <;> rcases h' with ⟨c', e1', e2'⟩ | ⟨z1', e1', x', r2', b', h'⟩ <;> rw [e1] at e1' <;> cases e1'
  · rw [e2, e2']
  · obtain ⟨ex, er⟩ := lb_cp_det b b'
    subst ex
    subst er
    rcases h with ⟨c, e2, e3⟩ | ⟨z2, e2, r3, b, h⟩ <;> rcases h' with ⟨c', e2', e3'⟩ | ⟨z2', e2', r3', b', h'⟩ <;> rw [e2] at e2' <;> cases e2'
    · rw [e3, e3']
    · have e := lb_sum_det b b'
      subst e
      rcases h with ⟨c, e4, e5⟩ | ⟨z3, e4, h⟩ <;> rcases h' with ⟨c', e4', e5'⟩ | ⟨z3', e4', h'⟩ <;> rw [e4] at e4' <;> cases e4'
      · rw [e5, e5']
      · rw [h, h']
def lb_sg (s : Int32) : Nat := if s = Int32.ofInt 13 then 1 else if s = Int32.ofInt 12 then 2 else if s = Int32.ofInt 11 then 3 else 0
/-- what the one side puts where the other puts s -/
def lb_tw (s : Int32) : Int32 := if s = Int32.ofInt 13 then Int32.ofInt 20 else if s = Int32.ofInt 12 then Int32.ofInt 19 else Int32.ofInt 21
def lb_st (l : Nat) : List Int32 → Int32 → lb_E → Int32 × List Int32 × lb_E
  | [], d, e => (d, [], e)
  | s :: S, d, e => if l ≤ lb_sg s then lb_st l S (if s = Int32.ofInt 11 then d - Int32.ofInt 1 else d) (lb_em e (lb_tw s) s) else (d, s :: S, e)
/-- 0: at a fact; 1: behind a fact; 2: settled; 3: behind brackets -/
def lb_ma (f : Nat → Int32) (t : Nat) : Nat → Nat → Int32 → List Int32 → lb_Z → lb_Y → Prop
  | 0, _, _, _, _, _ => False
  | k + 1, 0, d, S, z, r =>
    (lb_at f t (lb_W (nt_sp + 1 + 15)) z.1 ∧ d = Int32.ofInt 10 ∧ r = .inl (lb_c z.1 (Int32.ofInt 2))) ∨
    (lb_at f t (lb_W (nt_sp + 1 + 15)) z.1 ∧ ¬ d = Int32.ofInt 10 ∧ lb_ma f t k 0 (d + Int32.ofInt 1) (Int32.ofInt 11 :: S) (lb_s f t (z.1 + (lb_W (nt_sp + 1 + 15)).length), z.2.1, z.2.2) r) ∨
    (¬ lb_at f t (lb_W (nt_sp + 1 + 15)) z.1 ∧ lb_g f t z.1 = Int32.ofInt 91 ∧ d = Int32.ofInt 10 ∧ r = .inl (lb_c z.1 (Int32.ofInt 2))) ∨
    (¬ lb_at f t (lb_W (nt_sp + 1 + 15)) z.1 ∧ lb_g f t z.1 = Int32.ofInt 91 ∧ ¬ d = Int32.ofInt 10 ∧ lb_ma f t k 0 (d + Int32.ofInt 1) (Int32.ofInt 91 :: S) (lb_s f t (z.1 + 1), z.2.1, z.2.2) r) ∨
    (¬ lb_at f t (lb_W (nt_sp + 1 + 15)) z.1 ∧ ¬ lb_g f t z.1 = Int32.ofInt 91 ∧ ∃ r1, lb_fa f t z r1 ∧ lb_th r1 r (fun z1 => lb_ma f t k 1 d S z1 r))
  | k + 1, 1, d, S, z, r => lb_ma f t k 2 (lb_st 3 S d z.2.2).1 (lb_st 3 S d z.2.2).2.1 (z.1, z.2.1, (lb_st 3 S d z.2.2).2.2) r
  | k + 1, 2, d, S, z, r =>
    ((lb_g f t z.1 = Int32.ofInt 93 ∧ Int32.ofInt 91 ∈ S) ∧ lb_ma f t k 1 ((lb_st 1 S d z.2.2).1 - Int32.ofInt 1) (lb_st 1 S d z.2.2).2.1.tail (lb_s f t (z.1 + 1), z.2.1, (lb_st 1 S d z.2.2).2.2) r) ∨
    (¬ (lb_g f t z.1 = Int32.ofInt 93 ∧ Int32.ofInt 91 ∈ S) ∧ lb_ma f t k 3 d S z r)
  | k + 1, _ + 3, d, S, z, r =>
    (lb_at f t (lb_W (nt_sp + 1 + 16)) z.1 ∧ lb_ma f t k 0 (lb_st 2 S d z.2.2).1 (Int32.ofInt 12 :: (lb_st 2 S d z.2.2).2.1) (lb_s f t (z.1 + (lb_W (nt_sp + 1 + 16)).length), z.2.1, (lb_st 2 S d z.2.2).2.2) r) ∨
    (¬ lb_at f t (lb_W (nt_sp + 1 + 16)) z.1 ∧ lb_at f t (lb_W (nt_sp + 1 + 17)) z.1 ∧ lb_ma f t k 0 (lb_st 1 S d z.2.2).1 (Int32.ofInt 13 :: (lb_st 1 S d z.2.2).2.1) (lb_s f t (z.1 + (lb_W (nt_sp + 1 + 17)).length), z.2.1, (lb_st 1 S d z.2.2).2.2) r) ∨
    (¬ lb_at f t (lb_W (nt_sp + 1 + 16)) z.1 ∧ ¬ lb_at f t (lb_W (nt_sp + 1 + 17)) z.1 ∧ Int32.ofInt 91 ∈ S ∧ r = .inl (lb_c z.1 (Int32.ofInt 0))) ∨
    (¬ lb_at f t (lb_W (nt_sp + 1 + 16)) z.1 ∧ ¬ lb_at f t (lb_W (nt_sp + 1 + 17)) z.1 ∧ ¬ Int32.ofInt 91 ∈ S ∧ r = .inr (z.1, z.2.1, (lb_st 1 S d z.2.2).2.2))
def lb_tp (a w : Bool) (S : List Int32) : List Int32 := (if a = true then [Int32.ofInt 12] else []) ++ ((if w = true then [Int32.ofInt 13] else []) ++ S)
def lb_ae (e : lb_E) : Bool → lb_E
  | true => lb_em e (Int32.ofInt 19) (Int32.ofInt 12)
  | false => e
def lb_b0 (S : List Int32) : Prop := S = [] ∨ ∃ S', S = Int32.ofInt 91 :: S'
theorem lb_st_b {S : List Int32} {l : Nat} {d : Int32} {e : lb_E} (hS : lb_b0 S) (hl : 1 ≤ l) : lb_st l S d e = (d, S, e) := by
  rcases hS with h | ⟨S', h⟩
  · subst h; rfl
  · subst h
    unfold lb_st
    rw [if_neg (show ¬ l ≤ lb_sg (Int32.ofInt 91) from by rw [show lb_sg (Int32.ofInt 91) = 0 from by decide]; omega)]
theorem lb_st_12 {S : List Int32} {l : Nat} {d : Int32} {e : lb_E} (hl : l ≤ 2) : lb_st l (Int32.ofInt 12 :: S) d e = lb_st l S d (lb_em e (Int32.ofInt 19) (Int32.ofInt 12)) := by
  show (if l ≤ lb_sg (Int32.ofInt 12) then lb_st l S (if Int32.ofInt 12 = Int32.ofInt 11 then d - Int32.ofInt 1 else d) (lb_em e (lb_tw (Int32.ofInt 12)) (Int32.ofInt 12)) else (d, Int32.ofInt 12 :: S, e)) = _
  rw [show lb_sg (Int32.ofInt 12) = 2 from by decide, if_pos hl, if_neg (by decide), show lb_tw (Int32.ofInt 12) = Int32.ofInt 19 from by decide]
theorem lb_st_13 {S : List Int32} {d : Int32} {e : lb_E} : lb_st 1 (Int32.ofInt 13 :: S) d e = lb_st 1 S d (lb_em e (Int32.ofInt 20) (Int32.ofInt 13)) := by
  show (if 1 ≤ lb_sg (Int32.ofInt 13) then lb_st 1 S (if Int32.ofInt 13 = Int32.ofInt 11 then d - Int32.ofInt 1 else d) (lb_em e (lb_tw (Int32.ofInt 13)) (Int32.ofInt 13)) else (d, Int32.ofInt 13 :: S, e)) = _
  rw [show lb_sg (Int32.ofInt 13) = 1 from by decide, if_pos (by decide), if_neg (by decide), show lb_tw (Int32.ofInt 13) = Int32.ofInt 20 from by decide]
theorem lb_st_no {S : List Int32} {l : Nat} {d s : Int32} {e : lb_E} (hl : lb_sg s < l) : lb_st l (s :: S) d e = (d, s :: S, e) := if_neg (by omega)
theorem lb_st_11 {S : List Int32} {d : Int32} {e : lb_E} : lb_st 3 (Int32.ofInt 11 :: S) d e = lb_st 3 S (d - Int32.ofInt 1) (lb_em e (Int32.ofInt 21) (Int32.ofInt 11)) := by
  show (if 3 ≤ lb_sg (Int32.ofInt 11) then lb_st 3 S (if Int32.ofInt 11 = Int32.ofInt 11 then d - Int32.ofInt 1 else d) (lb_em e (lb_tw (Int32.ofInt 11)) (Int32.ofInt 11)) else (d, Int32.ofInt 11 :: S, e)) = _
  rw [show lb_sg (Int32.ofInt 11) = 3 from by decide, if_pos (by decide), if_pos rfl, show lb_tw (Int32.ofInt 11) = Int32.ofInt 21 from by decide]
theorem lb_st_1 {S : List Int32} {a w : Bool} {d : Int32} {e : lb_E} (hS : lb_b0 S) : lb_st 1 (lb_tp a w S) d e = (d, S, lb_oe (lb_ae e a) w) := by
  cases a <;> cases w
  · exact lb_st_b hS (by decide)
  · exact lb_st_13.trans (lb_st_b hS (by decide))
  · exact (lb_st_12 (by decide)).trans (lb_st_b hS (by decide))
  · exact (lb_st_12 (by decide)).trans (lb_st_13.trans (lb_st_b hS (by decide)))
theorem lb_st_2 {S : List Int32} {a w : Bool} {d : Int32} {e : lb_E} (hS : lb_b0 S) : lb_st 2 (lb_tp a w S) d e = (d, lb_tp false w S, lb_ae e a) := by
  cases a <;> cases w
  · exact lb_st_b hS (by decide)
  · exact lb_st_no (by decide)
  · exact (lb_st_12 (by decide)).trans (lb_st_b hS (by decide))
  · exact (lb_st_12 (by decide)).trans (lb_st_no (by decide))
theorem lb_st_3 {S : List Int32} {a w : Bool} {d : Int32} {e : lb_E} (hS : lb_b0 S) : lb_st 3 (lb_tp a w S) d e = (d, lb_tp a w S, e) := by
  cases a <;> cases w
  · exact lb_st_b hS (by decide)
  · exact lb_st_no (by decide)
  · exact lb_st_no (by decide)
  · exact lb_st_no (by decide)
theorem lb_at_g {f : Nat → Int32} {t p a : Nat} {c : Int32} (ha : (lb_W a).getD 0 0 = c) (h0 : 0 < (lb_W a).length) (h : lb_at f t (lb_W a) p) : lb_g f t p = c &&& Int32.ofInt 255 := by
  have h1 := h.1
  unfold lb_g
  rw [if_pos (by omega)]
  have q := h.2.1 0 h0
  rw [ha] at q
  rw [show f p = c from q]
theorem lb_and_g {f : Nat → Int32} {t p : Nat} (h : lb_at f t (lb_W (nt_sp + 1 + 16)) p) : ¬ lb_g f t p = Int32.ofInt 93 := by
  rw [lb_at_g (c := Int32.ofInt 97) (by decide +kernel) (lb_Wp 16 (by decide)) h]
  decide
theorem lb_or_g {f : Nat → Int32} {t p : Nat} (h : lb_at f t (lb_W (nt_sp + 1 + 17)) p) : ¬ lb_g f t p = Int32.ofInt 93 := by
  rw [lb_at_g (c := Int32.ofInt 111) (by decide +kernel) (lb_Wp 17 (by decide)) h]
  decide
/-- where no more is to be settled behind a fact -/
theorem lb_ma_1 {f : Nat → Int32} {t n : Nat} {d : Int32} {S : List Int32} {z : lb_Z} {r : lb_Y} (hS : lb_st 3 S d z.2.2 = (d, S, z.2.2)) (h : lb_ma f t n 1 d S z r) : ∃ n', lb_ma f t n' 2 d S z r := by
  cases n with
  | zero => exact h.elim
  | succ n =>
    have h : lb_ma f t n 2 (lb_st 3 S d z.2.2).1 (lb_st 3 S d z.2.2).2.1 (z.1, z.2.1, (lb_st 3 S d z.2.2).2.2) r := h
    rw [hS] at h
    exact ⟨n, h⟩
theorem lb_in_91 {a w : Bool} {S : List Int32} : Int32.ofInt 91 ∈ lb_tp a w (Int32.ofInt 91 :: S) := by
  unfold lb_tp
  exact List.mem_append.mpr (Or.inr (List.mem_append.mpr (Or.inr (List.mem_cons_self ..))))
theorem lb_nin_91 {a w : Bool} : ¬ Int32.ofInt 91 ∈ lb_tp a w [] := by
  cases a <;> cases w <;> decide
/-- a fact, or what follows one: read by the one side, and by the other -/
theorem lb_ft_ma {f : Nat → Int32} {t : Nat} : ∀ (k : Nat) (b : Bool) (d : Nat) (w : Bool) (z : lb_Z) (r1 : lb_Y), lb_ft f t k b d w z r1 → d ≤ 10 →
    (b = true → ∀ (n : Nat) (S : List Int32) (r : lb_Y), lb_ma f t n 0 (nI d) S z r → (∃ c, r1 = .inl c ∧ r = .inl c) ∨ ∃ z1 n', r1 = .inr z1 ∧ lb_ma f t n' 1 (nI d) S z1 r) ∧
    (b = false → ∀ (n : Nat) (S : List Int32) (a : Bool) (z0 : lb_Z) (r : lb_Y), lb_b0 S → z = (z0.1, z0.2.1, lb_ae z0.2.2 a) → lb_ma f t n 2 (nI d) (lb_tp a w S) z0 r → (∃ c, r1 = .inl c ∧ r = .inl c) ∨ ∃ (z1 z0' : lb_Z) (a' w' : Bool) (n' : Nat), r1 = .inr z1 ∧ ¬ lb_at f t (lb_W (nt_sp + 1 + 16)) z1.1 ∧ ¬ lb_at f t (lb_W (nt_sp + 1 + 17)) z1.1 ∧ z1 = (z0'.1, z0'.2.1, lb_oe (lb_ae z0'.2.2 a') w') ∧ lb_ma f t n' 2 (nI d) (lb_tp a' w' S) z0' r) := by
  intro k
  induction k with
  | zero => intro b d w z r1 h; exact h.elim
  | succ k ih =>
    intro b d w z r1 h hd
    cases b with
    | true =>
      refine ⟨fun _ n S r hm => ?_, fun h => (by cases h)⟩
      cases n with
      | zero => exact hm.elim
      | succ n =>
        rcases h with ⟨h1, h2, h⟩ | ⟨h1, h2, r2, h3, h4⟩ | ⟨h1, h2, h3, r2, h4, h5⟩ | ⟨h1, h2, h⟩
        · have e10 : d = 10 := by omega
          subst e10
          rcases hm with ⟨_, _, q⟩ | ⟨_, q, _⟩ | ⟨_, _, _, q⟩ | ⟨_, _, q, _⟩ | ⟨q1, q2, _⟩
          · exact Or.inl ⟨_, h, q⟩
          · exact absurd rfl q
          · exact Or.inl ⟨_, h, q⟩
          · exact absurd rfl q
          · exact absurd h1 (fun c => c.elim q1 q2)
        · have ne10 : ¬ nI d = Int32.ofInt 10 := me_ne (b := 10) (by omega) (by omega) (by omega)
          rcases hm with ⟨_, q, _⟩ | ⟨_, _, hm⟩ | ⟨q, _⟩ | ⟨q, _⟩ | ⟨q, _⟩
          · exact absurd q ne10
          · rw [show nI d + Int32.ofInt 1 = nI (d + 1) from me_add (k := 1)] at hm
            rcases (ih _ _ _ _ _ h3 (by omega)).1 rfl _ _ _ hm with ⟨c, e1, e2⟩ | ⟨z1, n', e1, hm⟩
            · subst e1
              rcases h4 with ⟨c', e3, e4⟩ | ⟨z1, e3, _⟩
              · cases e3
                exact Or.inl ⟨_, e4, e2⟩
              · cases e3
            · subst e1
              rcases h4 with ⟨c', e3, e4⟩ | ⟨z2, e3, h4⟩
              · cases e3
              · cases e3
                refine Or.inr ⟨_, n', h4, ?_⟩
                cases n' with
                | zero => exact hm.elim
                | succ n' =>
                  have hm : lb_ma f t n' 2 (lb_st 3 (Int32.ofInt 11 :: S) (nI (d + 1)) z1.2.2).1 (lb_st 3 (Int32.ofInt 11 :: S) (nI (d + 1)) z1.2.2).2.1 (z1.1, z1.2.1, (lb_st 3 (Int32.ofInt 11 :: S) (nI (d + 1)) z1.2.2).2.2) r := hm
                  rw [lb_st_11, show nI (d + 1) - Int32.ofInt 1 = nI d from (me_subn (b := 1) (by omega)).trans (congrArg nI (by omega))] at hm
                  exact hm
          · exact absurd h1 q
          · exact absurd h1 q
          · exact absurd h1 q
        · have ne10 : ¬ nI d = Int32.ofInt 10 := me_ne (b := 10) (by omega) (by omega) (by omega)
          rcases hm with ⟨q, _⟩ | ⟨q, _⟩ | ⟨_, _, q, _⟩ | ⟨_, _, _, hm⟩ | ⟨_, q, _⟩
          · exact absurd q h1
          · exact absurd q h1
          · exact absurd q ne10
          · rw [show nI d + Int32.ofInt 1 = nI (d + 1) from me_add (k := 1)] at hm
            rcases (ih _ _ _ _ _ h4 (by omega)).1 rfl _ _ _ hm with ⟨c, e1, e2⟩ | ⟨z1, n', e1, hm⟩
            · subst e1
              rcases h5 with ⟨c', e3, e4⟩ | ⟨z1, e3, _⟩
              · cases e3
                exact Or.inl ⟨_, e4, e2⟩
              · cases e3
            · subst e1
              rcases h5 with ⟨c', e3, e4⟩ | ⟨z2, e3, r3, h6, h7⟩
              · cases e3
              · cases e3
                have hb : lb_b0 (Int32.ofInt 91 :: S) := Or.inr ⟨S, rfl⟩
                obtain ⟨n2, hm⟩ := lb_ma_1 (lb_st_b hb (by decide)) hm
                rcases (ih _ _ _ _ _ h6 (by omega)).2 rfl n2 _ false z1 r hb rfl hm with ⟨c, e1, e2⟩ | ⟨z3, z0', a', w', n3, e1, na, no, ez, hm⟩
                · subst e1
                  rcases h7 with ⟨c', e3, e4⟩ | ⟨z1, e3, _⟩
                  · cases e3
                    exact Or.inl ⟨_, e4, e2⟩
                  · cases e3
                · subst e1
                  rcases h7 with ⟨c', e3, e4⟩ | ⟨z4, e3, h7⟩
                  · cases e3
                  · cases e3
                    have ez1 : z3.1 = z0'.1 := by rw [ez]
                    have ez2 : z3.2.1 = z0'.2.1 := by rw [ez]
                    have ez3 : z3.2.2 = lb_oe (lb_ae z0'.2.2 a') w' := by rw [ez]
                    cases n3 with
                    | zero => exact hm.elim
                    | succ n3 =>
                      rcases h7 with ⟨h93, h7⟩ | ⟨h93, h7⟩
                      · rcases hm with ⟨_, hm⟩ | ⟨q, _⟩
                        · rw [lb_st_1 hb] at hm
                          dsimp only at hm
                          rw [show nI (d + 1) - Int32.ofInt 1 = nI d from (me_subn (b := 1) (by omega)).trans (congrArg nI (by omega)), ← ez1, ← ez2, ← ez3] at hm
                          exact Or.inr ⟨_, n3, h7, hm⟩
                        · exact absurd ⟨ez1 ▸ h93, lb_in_91⟩ q
                      · rcases hm with ⟨⟨q, _⟩, _⟩ | ⟨_, hm⟩
                        · exact absurd (by rw [ez1]; exact q) h93
                        · cases n3 with
                          | zero => exact hm.elim
                          | succ n3 =>
                            rw [ez1] at na no
                            rcases hm with ⟨q, _⟩ | ⟨_, q, _⟩ | ⟨_, _, _, q⟩ | ⟨_, _, q, _⟩
                            · exact absurd q na
                            · exact absurd q no
                            · rw [ez1] at h7
                              exact Or.inl ⟨_, h7, q⟩
                            · exact absurd lb_in_91 q
          · exact absurd h2 q
        · rcases hm with ⟨q, _⟩ | ⟨q, _⟩ | ⟨_, q, _⟩ | ⟨_, q, _⟩ | ⟨_, _, r2, hf, hm⟩
          · exact absurd q h1
          · exact absurd q h1
          · exact absurd q h2
          · exact absurd q h2
          · have e := lb_fa_det h hf
            subst e
            rcases hm with h | ⟨z1, e1, hm⟩
            · exact Or.inl h
            · exact Or.inr ⟨z1, n, e1, hm⟩
    | false =>
      refine ⟨fun h => (by cases h), fun _ n S a z0 r hb ez hm => ?_⟩
      have ez1 : z.1 = z0.1 := by rw [ez]
      have ez2 : z.2.1 = z0.2.1 := by rw [ez]
      have ez3 : z.2.2 = lb_ae z0.2.2 a := by rw [ez]
      cases n with
      | zero => exact hm.elim
      | succ n =>
        rcases h with ⟨h1, r2, h3, h4⟩ | ⟨h1, h2, r2, h3, h4⟩ | ⟨h1, h2, h⟩
        · rw [ez1] at h1
          rcases hm with ⟨⟨q, _⟩, _⟩ | ⟨_, hm⟩
          · exact absurd q (lb_and_g h1)
          cases n with
          | zero => exact hm.elim
          | succ n =>
            rcases hm with ⟨_, hm⟩ | ⟨q, _⟩ | ⟨q, _⟩ | ⟨q, _⟩
            · rw [lb_st_2 hb] at hm
              dsimp only at hm
              rw [← ez1, ← ez2, ← ez3] at hm
              have hm : lb_ma f t n 0 (nI d) (lb_tp true w S) (lb_s f t (z.1 + (lb_W (nt_sp + 1 + 16)).length), z.2.1, z.2.2) r := hm
              rcases (ih _ _ _ _ _ h3 hd).1 rfl _ _ _ hm with ⟨c, e1, e2⟩ | ⟨z1, n', e1, hm⟩
              · subst e1
                rcases h4 with ⟨c', e3, e4⟩ | ⟨z1, e3, _⟩
                · cases e3
                  exact Or.inl ⟨_, e4, e2⟩
                · cases e3
              · subst e1
                rcases h4 with ⟨c', e3, e4⟩ | ⟨z2, e3, h4⟩
                · cases e3
                · cases e3
                  obtain ⟨n2, hm⟩ := lb_ma_1 (lb_st_3 hb) hm
                  exact (ih _ _ _ _ _ h4 hd).2 rfl n2 S true z1 r hb rfl hm
            · exact absurd h1 q
            · exact absurd h1 q
            · exact absurd h1 q
        · rw [ez1] at h1 h2
          rcases hm with ⟨⟨q, _⟩, _⟩ | ⟨_, hm⟩
          · exact absurd q (lb_or_g h2)
          cases n with
          | zero => exact hm.elim
          | succ n =>
            rcases hm with ⟨q, _⟩ | ⟨_, _, hm⟩ | ⟨_, q, _⟩ | ⟨_, q, _⟩
            · exact absurd q h1
            · rw [lb_st_1 hb] at hm
              dsimp only at hm
              rw [← ez1, ← ez2, ← ez3] at hm
              have hm : lb_ma f t n 0 (nI d) (lb_tp false true S) (lb_s f t (z.1 + (lb_W (nt_sp + 1 + 17)).length), z.2.1, lb_oe z.2.2 w) r := hm
              rcases (ih _ _ _ _ _ h3 hd).1 rfl _ _ _ hm with ⟨c, e1, e2⟩ | ⟨z1, n', e1, hm⟩
              · subst e1
                rcases h4 with ⟨c', e3, e4⟩ | ⟨z1, e3, _⟩
                · cases e3
                  exact Or.inl ⟨_, e4, e2⟩
                · cases e3
              · subst e1
                rcases h4 with ⟨c', e3, e4⟩ | ⟨z2, e3, h4⟩
                · cases e3
                · cases e3
                  obtain ⟨n2, hm⟩ := lb_ma_1 (lb_st_3 hb) hm
                  exact (ih _ _ _ _ _ h4 hd).2 rfl n2 S false z1 r hb rfl hm
            · exact absurd h2 q
            · exact absurd h2 q
        · refine Or.inr ⟨_, z0, a, w, n + 1, h, ?_, ?_, ?_, hm⟩
          · exact h1
          · exact h2
          · rw [ez1, ez2, ez3]
/-- a test -/
theorem lb_test_ma {f : Nat → Int32} {t k n : Nat} {z : lb_Z} {r1 r2 r : lb_Y} (h1 : lb_ft f t k true 0 false z r1) (h2 : lb_th r1 r2 (fun z1 => lb_ft f t k false 0 false z1 r2)) (hm : lb_ma f t n 0 (Int32.ofInt 0) [] z r) : r = r2 := by
  have hb : lb_b0 [] := Or.inl rfl
  rcases (lb_ft_ma _ _ _ _ _ _ h1 (by decide)).1 rfl _ _ _ hm with ⟨c, e1, e2⟩ | ⟨z1, n', e1, hm⟩
  · subst e1
    rcases h2 with ⟨c', e3, e4⟩ | ⟨z1, e3, _⟩
    · cases e3
      rw [e2, e4]
    · cases e3
  · subst e1
    rcases h2 with ⟨c', e3, e4⟩ | ⟨z2, e3, h2⟩
    · cases e3
    · cases e3
      obtain ⟨n2, hm⟩ := lb_ma_1 (lb_st_b hb (by decide)) hm
      rcases (lb_ft_ma _ _ _ _ _ _ h2 (by decide)).2 rfl n2 _ false z1 r hb rfl hm with ⟨c, e1, e2⟩ | ⟨z3, z0', a', w', n3, e1, na, no, ez, hm⟩
      · rw [e1, e2]
      · have ez1 : z3.1 = z0'.1 := by rw [ez]
        rw [ez1] at na no
        cases n3 with
        | zero => exact hm.elim
        | succ n3 =>
          rcases hm with ⟨⟨_, q⟩, _⟩ | ⟨_, hm⟩
          · exact absurd q lb_nin_91
          cases n3 with
          | zero => exact hm.elim
          | succ n3 =>
            rcases hm with ⟨q, _⟩ | ⟨_, q, _⟩ | ⟨_, _, q, _⟩ | ⟨_, _, _, q⟩
            · exact absurd q na
            · exact absurd q no
            · exact absurd q lb_nin_91
            · rw [lb_st_1 hb] at q
              rw [q, e1, ez]
end
section
/-! a comparison, the other side -/
theorem md_sum {X : nt_X} {d t x B Tb Sg Ln q m : Nat} {f : Nat → Int32} {M : nt_M} {J0 J : Nat → Nat → Int32} {o : Option Value × nt_M} {e : Nat × (Nat → Int32)} {s0 : Nat × (Nat → Int32)} (hP : md_P M J0 f t x B Tb Sg Ln) (hB : lb_by f t) (hS : md_S J0 B Sg Ln x q 0 m e J) (hp : q ≤ t) (k : nt_ev X d 151 [.ref B] (me_w M J) o) : ∃ r a J', o = (some (.int a), me_w M J') ∧ lb_sum f t (lb_s f t q, m, (s0, e)) r ∧ md_Q J0 B Sg Ln x t f r a J' := by
  obtain ⟨r, a, J', h1, h2, h3⟩ := md_sum0 (s0 := s0) hP hB hS hp k
  exact ⟨r, a, J', h1, lb_su_sum (lb_s_le (t - q) q (by omega)).2 h2, h3⟩
theorem md_cmp {X : nt_X} {d t x B Tb Sg Ln q m : Nat} {f : Nat → Int32} {M : nt_M} {J0 J : Nat → Nat → Int32} {o : Option Value × nt_M} {e : Nat × (Nat → Int32)} {s0 : Nat × (Nat → Int32)} (hP : md_P M J0 f t x B Tb Sg Ln) (hB : lb_by f t) (hS : md_S J0 B Sg Ln x q 0 m e J) (hp : q ≤ t) (k : nt_ev X d 161 [.ref B] (me_w M J) o) : ∃ r a J', o = (some (.int a), me_w M J') ∧ lb_fa f t (lb_s f t q, m, (s0, e)) r ∧ md_Q J0 B Sg Ln x t f r a J' := by
  have k : nt_rn X d 161 (0, [(0, .ref B)], [], me_w M J) o := k
  have t4 : t ≤ 400 := hP.2.2.2.2.2.1
  have k := ly_revb 1 (c' := (1, [(0, .ref B)], [.ref B], me_w M J)) rfl k
  obtain ⟨d1, o1, ed, kc, k⟩ := lz_c (g := 151) (q := 1) (vs := [.ref B]) (rest := []) rfl rfl (by decide) (Or.inr (Or.inl ⟨_, rfl, rfl⟩)) rfl k
  obtain ⟨r1, a1, J1, e1, hv1, hQ1⟩ := md_sum (s0 := s0) hP hB hS hp kc
  subst e1
  rcases r1 with c | z1
  · obtain ⟨hc, rfl, q1, m1, e1, hT1, hq1⟩ := hQ1
    have k : nt_rn X _ 161 (4, [(0, .ref B)], [.int (Int32.ofInt 0)], me_w M J1) _ := k
    have k := ly_revb 1 (c' := (if (Int32.ofInt 0) = 0 then 7 else 9, [(0, .ref B)], [], me_w M J1)) rfl k
    rw [if_pos (show (Int32.ofInt 0) = 0 from by decide)] at k
    have k := ly_revb 1 (c' := (8, [(0, .ref B)], [.int (Int32.ofInt 0)], me_w M J1)) rfl k
    have k := lz_ri rfl (by decide) k
    exact ⟨.inl c, _, _, k, ⟨_, hv1, Or.inl ⟨c, rfl, rfl⟩⟩, hc, rfl, _, _, _, hT1, hq1⟩
  · obtain ⟨rfl, q1, hz1, hq1, hT1⟩ := hQ1
    have k : nt_rn X _ 161 (4, [(0, .ref B)], [.int (Int32.ofInt 1)], me_w M J1) _ := k
    have k := ly_revb 1 (c' := (if (Int32.ofInt 1) = 0 then 7 else 9, [(0, .ref B)], [], me_w M J1)) rfl k
    rw [if_neg (show ¬ ((Int32.ofInt 1) = 0) from by decide)] at k
    have k := ly_revb 1 (c' := (10, [(0, .ref B)], [.ref B], me_w M J1)) rfl k
    obtain ⟨d1, o1, ed, kc, k⟩ := lz_c (g := 136) (q := 1) (vs := [.ref B]) (rest := []) rfl rfl (by decide) (Or.inr (Or.inl ⟨_, rfl, rfl⟩)) rfl k
    have e1 := md_see hP hT1 hq1 kc
    rw [hz1] at e1
    subst e1
    have hS2 := md_Sq (y := z1.1) hP hT1
    have hp2 : z1.1 ≤ t := by rw [← hz1]; exact (lb_s_le (t - q1) q1 (by omega)).2
    have k : nt_rn X _ 161 (13, [(0, .ref B)], [.int (lb_g f t z1.1)], me_w M (nt_u J1 B 15 (nI z1.1))) _ := k
    have k := ly_revb 2 (c' := (15, [(1, .int (lb_g f t z1.1)), (0, .ref B)], [.ref B], me_w M (nt_u J1 B 15 (nI z1.1)))) rfl k
    have k := lz_get (a := B) (g := 1115) (M := me_w M (nt_u J1 B 15 (nI z1.1))) (v := .int (nI z1.1)) rfl (congrArg Value.int (hS2.1)) k
    have k := ly_revb 4 (c' := (if (lb_g f t z1.1) = (Int32.ofInt 60) then 44 else 25, [(2, .int (nI z1.1)), (1, .int (lb_g f t z1.1)), (0, .ref B)], [], me_w M (nt_u J1 B 15 (nI z1.1)))) rfl k
    by_cases h22 : lb_g f t z1.1 = Int32.ofInt 60
    · rw [if_pos (show (lb_g f t z1.1) = (Int32.ofInt 60) from h22)] at k
      have k := ly_revb 2 (c' := (46, [(2, .int (nI z1.1)), (1, .int (lb_g f t z1.1)), (0, .ref B)], [.ref B, .ref B], me_w M (nt_u J1 B 15 (nI z1.1)))) rfl k
      have k := lz_get (a := B) (g := 1115) (M := me_w M (nt_u J1 B 15 (nI z1.1))) (v := .int (nI z1.1)) rfl (congrArg Value.int (hS2.1)) k
      have k := ly_revb 2 (c' := (51, [(2, .int (nI z1.1)), (1, .int (lb_g f t z1.1)), (0, .ref B)], [.int ((nI z1.1) + (Int32.ofInt 1)), .ref B], me_w M (nt_u J1 B 15 (nI z1.1)))) rfl k
      rw [show ((nI z1.1) + (Int32.ofInt 1) : Int32) = nI (z1.1 + 1) from me_add (k := 1)] at k
      have k := me_put rfl (by decide) k
      have k : nt_rn X _ 161 (54, [(2, .int (nI z1.1)), (1, .int (lb_g f t z1.1)), (0, .ref B)], [], me_w M (nt_u (nt_u J1 B 15 (nI z1.1)) B 15 (nI (z1.1 + 1)))) _ := k
      have hN1 := md_Sq (y := z1.1 + 1) hP hS2
      have hlt : z1.1 < t := lb_g_lt (by rw [h22]; decide)
      have k := ly_revb 3 (c' := (if (lb_g f t z1.1) = (Int32.ofInt 61) then 89 else 60, [(2, .int (nI z1.1)), (1, .int (lb_g f t z1.1)), (0, .ref B)], [], me_w M (nt_u (nt_u J1 B 15 (nI z1.1)) B 15 (nI (z1.1 + 1))))) rfl k
      rw [if_neg (show ¬ ((lb_g f t z1.1) = (Int32.ofInt 61)) from by rw [h22]; decide)] at k
      have k := ly_revb 1 (c' := (61, [(2, .int (nI z1.1)), (1, .int (lb_g f t z1.1)), (0, .ref B)], [.ref B], me_w M (nt_u (nt_u J1 B 15 (nI z1.1)) B 15 (nI (z1.1 + 1))))) rfl k
      have k := lz_get (a := B) (g := 1115) (M := me_w M (nt_u (nt_u J1 B 15 (nI z1.1)) B 15 (nI (z1.1 + 1)))) (v := .int (nI (z1.1 + 1))) rfl (congrArg Value.int (hN1.1)) k
      have k := ly_revb 1 (c' := (65, [(2, .int (nI z1.1)), (1, .int (lb_g f t z1.1)), (0, .ref B)], [.ref B, .int (nI (z1.1 + 1))], me_w M (nt_u (nt_u J1 B 15 (nI z1.1)) B 15 (nI (z1.1 + 1))))) rfl k
      have k := lz_get (a := B) (g := 1101) (M := me_w M (nt_u (nt_u J1 B 15 (nI z1.1)) B 15 (nI (z1.1 + 1)))) (v := .int (nI t)) rfl (congrArg Value.int (md_t hP hN1)) k
      have k := ly_revb 1 (c' := (if (nI t) ≤ (nI (z1.1 + 1)) then 89 else 71, [(2, .int (nI z1.1)), (1, .int (lb_g f t z1.1)), (0, .ref B)], [], me_w M (nt_u (nt_u J1 B 15 (nI z1.1)) B 15 (nI (z1.1 + 1))))) rfl k
      by_cases h68 : t ≤ (z1.1 + 1)
      · rw [if_pos (show (nI t) ≤ (nI (z1.1 + 1)) from show nI t ≤ nI ((z1.1 + 1)) from nI_le h68 (by omega))] at k
        have k := ly_revb 4 (c' := (if (Int32.ofInt 0) = 0 then 105 else 95, [(3, .int (Int32.ofInt 0)), (2, .int (nI z1.1)), (1, .int (lb_g f t z1.1)), (0, .ref B)], [], me_w M (nt_u (nt_u J1 B 15 (nI z1.1)) B 15 (nI (z1.1 + 1))))) rfl k
        rw [if_pos (show (Int32.ofInt 0) = 0 from by decide)] at k
        have k := ly_revb 2 (c' := (107, [(3, .int (Int32.ofInt 0)), (2, .int (nI z1.1)), (1, .int (lb_g f t z1.1)), (0, .ref B)], [.int (nI z1.1), .ref B], me_w M (nt_u (nt_u J1 B 15 (nI z1.1)) B 15 (nI (z1.1 + 1))))) rfl k
        obtain ⟨d1, o1, ed, kc, k⟩ := lz_c (g := 154) (q := 1) (vs := [.ref B, .int (nI z1.1)]) (rest := []) rfl rfl (by decide) (Or.inr (Or.inl ⟨_, rfl, rfl⟩)) rfl k
        rcases md_makes (a := z1.1) hP hN1 (show z1.1 + 1 ≤ t from hlt) rfl kc with ⟨hm, e1⟩ | ⟨hm, e1⟩
        · subst e1
          have hS6 := md_Sw (y := lb_c z1.1 (Int32.ofInt 3)) hP hN1
          have k : nt_rn X _ 161 (110, [(3, .int (Int32.ofInt 0)), (2, .int (nI z1.1)), (1, .int (lb_g f t z1.1)), (0, .ref B)], [.int (Int32.ofInt 0)], me_w M (nt_u (nt_u (nt_u J1 B 15 (nI z1.1)) B 15 (nI (z1.1 + 1))) B 16 (lb_c z1.1 (Int32.ofInt 3)))) _ := k
          have k := ly_revb 1 (c' := (if (Int32.ofInt 0) = 0 then 113 else 115, [(3, .int (Int32.ofInt 0)), (2, .int (nI z1.1)), (1, .int (lb_g f t z1.1)), (0, .ref B)], [], me_w M (nt_u (nt_u (nt_u J1 B 15 (nI z1.1)) B 15 (nI (z1.1 + 1))) B 16 (lb_c z1.1 (Int32.ofInt 3))))) rfl k
          rw [if_pos (show (Int32.ofInt 0) = 0 from by decide)] at k
          have k := ly_revb 1 (c' := (114, [(3, .int (Int32.ofInt 0)), (2, .int (nI z1.1)), (1, .int (lb_g f t z1.1)), (0, .ref B)], [.int (Int32.ofInt 0)], me_w M (nt_u (nt_u (nt_u J1 B 15 (nI z1.1)) B 15 (nI (z1.1 + 1))) B 16 (lb_c z1.1 (Int32.ofInt 3))))) rfl k
          have k := lz_ri rfl (by decide) k
          have hcm : lb_cm f t z1.1 (Int32.ofInt 14) := Or.inr (Or.inl ⟨h22, fun c => absurd c.1 (by omega), rfl⟩)
          exact ⟨.inl (lb_c z1.1 (Int32.ofInt 3)), _, _, k, ⟨_, hv1, Or.inr ⟨z1, rfl, _, _, ⟨hcm, Or.inr (Or.inl ⟨by decide, hm, rfl⟩)⟩, Or.inl ⟨_, rfl, rfl⟩⟩⟩, (lb_c_ne (by omega) (by decide) (by decide)), rfl, _, _, _, hS6, (show z1.1 + 1 ≤ t from hlt)⟩
        · subst e1
          have hS6 := md_Sm (y := z1.2.1 + 1) hP hN1 (by omega)
          have k : nt_rn X _ 161 (110, [(3, .int (Int32.ofInt 0)), (2, .int (nI z1.1)), (1, .int (lb_g f t z1.1)), (0, .ref B)], [.int (Int32.ofInt 1)], me_w M (nt_u (nt_u (nt_u J1 B 15 (nI z1.1)) B 15 (nI (z1.1 + 1))) B 19 (nI (z1.2.1 + 1)))) _ := k
          have k := ly_revb 1 (c' := (if (Int32.ofInt 1) = 0 then 113 else 115, [(3, .int (Int32.ofInt 0)), (2, .int (nI z1.1)), (1, .int (lb_g f t z1.1)), (0, .ref B)], [], me_w M (nt_u (nt_u (nt_u J1 B 15 (nI z1.1)) B 15 (nI (z1.1 + 1))) B 19 (nI (z1.2.1 + 1))))) rfl k
          rw [if_neg (show ¬ ((Int32.ofInt 1) = 0) from by decide)] at k
          have k := ly_revb 3 (c' := (if (lb_g f t z1.1) = (Int32.ofInt 60) then 121 else 133, [(3, .int (Int32.ofInt 0)), (2, .int (nI z1.1)), (1, .int (lb_g f t z1.1)), (0, .ref B)], [], me_w M (nt_u (nt_u (nt_u J1 B 15 (nI z1.1)) B 15 (nI (z1.1 + 1))) B 19 (nI (z1.2.1 + 1))))) rfl k
          rw [if_pos (show (lb_g f t z1.1) = (Int32.ofInt 60) from h22)] at k
          have k := ly_revb 2 (c' := (if (Int32.ofInt 0) = 0 then 129 else 125, [(3, .int (Int32.ofInt 0)), (2, .int (nI z1.1)), (1, .int (lb_g f t z1.1)), (0, .ref B)], [], me_w M (nt_u (nt_u (nt_u J1 B 15 (nI z1.1)) B 15 (nI (z1.1 + 1))) B 19 (nI (z1.2.1 + 1))))) rfl k
          rw [if_pos (show (Int32.ofInt 0) = 0 from by decide)] at k
          have k := ly_revb 4 (c' := (155, [(4, .int (Int32.ofInt 0)), (3, .int (Int32.ofInt 0)), (2, .int (nI z1.1)), (1, .int (lb_g f t z1.1)), (0, .ref B)], [.ref B], me_w M (nt_u (nt_u (nt_u J1 B 15 (nI z1.1)) B 15 (nI (z1.1 + 1))) B 19 (nI (z1.2.1 + 1))))) rfl k
          obtain ⟨d1, o1, ed, kc, k⟩ := lz_c (g := 151) (q := 1) (vs := [.ref B]) (rest := []) rfl rfl (by decide) (Or.inr (Or.inl ⟨_, rfl, rfl⟩)) rfl k
          obtain ⟨r2, a2, J2, e1, hv2, hQ2⟩ := md_sum (s0 := z1.2.2.1) hP hB hS6 (show z1.1 + 1 ≤ t from hlt) kc
          subst e1
          rcases r2 with c | z2
          · obtain ⟨hc, rfl, q2, m2, e2, hT2, hq2⟩ := hQ2
            have k : nt_rn X _ 161 (158, [(4, .int (Int32.ofInt 0)), (3, .int (Int32.ofInt 0)), (2, .int (nI z1.1)), (1, .int (lb_g f t z1.1)), (0, .ref B)], [.int (Int32.ofInt 0)], me_w M J2) _ := k
            have k := ly_revb 1 (c' := (if (Int32.ofInt 0) = 0 then 161 else 163, [(4, .int (Int32.ofInt 0)), (3, .int (Int32.ofInt 0)), (2, .int (nI z1.1)), (1, .int (lb_g f t z1.1)), (0, .ref B)], [], me_w M J2)) rfl k
            rw [if_pos (show (Int32.ofInt 0) = 0 from by decide)] at k
            have k := ly_revb 1 (c' := (162, [(4, .int (Int32.ofInt 0)), (3, .int (Int32.ofInt 0)), (2, .int (nI z1.1)), (1, .int (lb_g f t z1.1)), (0, .ref B)], [.int (Int32.ofInt 0)], me_w M J2)) rfl k
            have k := lz_ri rfl (by decide) k
            have hcm : lb_cm f t z1.1 (Int32.ofInt 14) := Or.inr (Or.inl ⟨h22, fun c => absurd c.1 (by omega), rfl⟩)
            have hcl : lb_cl (Int32.ofInt 14) = 1 := by decide
            have hv3 : lb_sum f t (lb_s f t (z1.1 + lb_cl (Int32.ofInt 14)), z1.2.1 + 1, z1.2.2) (.inl c) := by rw [hcl]; exact hv2
            exact ⟨.inl c, _, _, k, ⟨_, hv1, Or.inr ⟨z1, rfl, _, _, ⟨hcm, Or.inr (Or.inr ⟨by decide, hm, rfl⟩)⟩, Or.inr ⟨_, rfl, _, hv3, Or.inl ⟨c, rfl, rfl⟩⟩⟩⟩, hc, rfl, _, _, _, hT2, hq2⟩
          · obtain ⟨rfl, q2, hz2, hq2, hT2⟩ := hQ2
            have k : nt_rn X _ 161 (158, [(4, .int (Int32.ofInt 0)), (3, .int (Int32.ofInt 0)), (2, .int (nI z1.1)), (1, .int (lb_g f t z1.1)), (0, .ref B)], [.int (Int32.ofInt 1)], me_w M J2) _ := k
            have k := ly_revb 1 (c' := (if (Int32.ofInt 1) = 0 then 161 else 163, [(4, .int (Int32.ofInt 0)), (3, .int (Int32.ofInt 0)), (2, .int (nI z1.1)), (1, .int (lb_g f t z1.1)), (0, .ref B)], [], me_w M J2)) rfl k
            rw [if_neg (show ¬ ((Int32.ofInt 1) = 0) from by decide)] at k
            have k := ly_revb 5 (c' := (170, [(4, .int (Int32.ofInt 0)), (3, .int (Int32.ofInt 0)), (2, .int (nI z1.1)), (1, .int (lb_g f t z1.1)), (0, .ref B)], [.int (Int32.ofInt 0), .int ((Int32.ofInt 6) + (Int32.ofInt 0)), .ref B], me_w M J2)) rfl k
            obtain ⟨d1, o1, ed, kc, k⟩ := lz_c (g := 155) (q := 1) (vs := [.ref B, .int ((Int32.ofInt 6) + (Int32.ofInt 0)), .int (Int32.ofInt 0)]) (rest := []) rfl rfl (by decide) (Or.inr (Or.inl ⟨_, rfl, rfl⟩)) rfl k
            obtain ⟨hb, e1⟩ := md_puts hP hT2 hq2 kc
            subst e1
            have hU2 := md_Se (y := ((Int32.ofInt 6) + (Int32.ofInt 0)) + Int32.ofInt 16 * (Int32.ofInt 0)) hP hT2 hb
            have k : nt_rn X _ 161 (173, [(4, .int (Int32.ofInt 0)), (3, .int (Int32.ofInt 0)), (2, .int (nI z1.1)), (1, .int (lb_g f t z1.1)), (0, .ref B)], [], me_w M (nt_u (nt_u J2 Sg (400 * x + z2.2.2.2.1) (((Int32.ofInt 6) + (Int32.ofInt 0)) + Int32.ofInt 16 * (Int32.ofInt 0))) Ln x (nI (z2.2.2.2.1 + 1)))) _ := k
            have k := ly_revb 1 (c' := (174, [(4, .int (Int32.ofInt 0)), (3, .int (Int32.ofInt 0)), (2, .int (nI z1.1)), (1, .int (lb_g f t z1.1)), (0, .ref B)], [.int (Int32.ofInt 1)], me_w M (nt_u (nt_u J2 Sg (400 * x + z2.2.2.2.1) (((Int32.ofInt 6) + (Int32.ofInt 0)) + Int32.ofInt 16 * (Int32.ofInt 0))) Ln x (nI (z2.2.2.2.1 + 1))))) rfl k
            have k := lz_ri rfl (by decide) k
            have hcm : lb_cm f t z1.1 (Int32.ofInt 14) := Or.inr (Or.inl ⟨h22, fun c => absurd c.1 (by omega), rfl⟩)
            have hcl : lb_cl (Int32.ofInt 14) = 1 := by decide
            have hv3 : lb_sum f t (lb_s f t (z1.1 + lb_cl (Int32.ofInt 14)), z1.2.1 + 1, z1.2.2) (.inr z2) := by rw [hcl]; exact hv2
            rw [show ((Int32.ofInt 6) + (Int32.ofInt 0)) + Int32.ofInt 16 * (Int32.ofInt 0) = Int32.ofInt 14 - Int32.ofInt 8 from by decide] at hU2
            rw [show ((Int32.ofInt 6) + (Int32.ofInt 0)) + Int32.ofInt 16 * (Int32.ofInt 0) = Int32.ofInt 14 - Int32.ofInt 8 from by decide] at k
            exact ⟨.inr (z2.1, z2.2.1, lb_em z2.2.2 (Int32.ofInt 14) (Int32.ofInt 14 - Int32.ofInt 8)), _, _, k, ⟨_, hv1, Or.inr ⟨z1, rfl, _, _, ⟨hcm, Or.inr (Or.inr ⟨by decide, hm, rfl⟩)⟩, Or.inr ⟨_, rfl, _, hv3, Or.inr ⟨z2, rfl, rfl⟩⟩⟩⟩, rfl, _, hz2, hq2, hU2⟩
      · rw [if_neg (show ¬ ((nI t) ≤ (nI (z1.1 + 1))) from show ¬ nI t ≤ nI ((z1.1 + 1)) from nI_ge (Nat.not_le.mp h68) (by omega))] at k
        have k := ly_revb 1 (c' := (72, [(2, .int (nI z1.1)), (1, .int (lb_g f t z1.1)), (0, .ref B)], [.ref B], me_w M (nt_u (nt_u J1 B 15 (nI z1.1)) B 15 (nI (z1.1 + 1))))) rfl k
        have k := lz_get (a := B) (g := 1100) (M := me_w M (nt_u (nt_u J1 B 15 (nI z1.1)) B 15 (nI (z1.1 + 1)))) (v := .ref Tb) rfl (nt_gfR rfl hP.1.1) k
        have k := ly_revb 1 (c' := (76, [(2, .int (nI z1.1)), (1, .int (lb_g f t z1.1)), (0, .ref B)], [.ref B, .ref Tb], me_w M (nt_u (nt_u J1 B 15 (nI z1.1)) B 15 (nI (z1.1 + 1))))) rfl k
        have k := lz_get (a := B) (g := 1115) (M := me_w M (nt_u (nt_u J1 B 15 (nI z1.1)) B 15 (nI (z1.1 + 1)))) (v := .int (nI (z1.1 + 1))) rfl (congrArg Value.int (hN1.1)) k
        have k := me_bald (q := (z1.1 + 1)) (v := f ((z1.1 + 1))) rfl (rfl) (by omega) (md_f hP hN1 ((z1.1 + 1))) k
        have k := ly_revb 2 (c' := (if (f ((z1.1 + 1))) = (Int32.ofInt 61) then 85 else 89, [(2, .int (nI z1.1)), (1, .int (lb_g f t z1.1)), (0, .ref B)], [], me_w M (nt_u (nt_u J1 B 15 (nI z1.1)) B 15 (nI (z1.1 + 1))))) rfl k
        by_cases h82 : f (z1.1 + 1) = Int32.ofInt 61
        · rw [if_pos (show (f ((z1.1 + 1))) = (Int32.ofInt 61) from h82)] at k
          have k := ly_revb 5 (c' := (if (Int32.ofInt 1) = 0 then 105 else 95, [(3, .int (Int32.ofInt 1)), (2, .int (nI z1.1)), (1, .int (lb_g f t z1.1)), (0, .ref B)], [], me_w M (nt_u (nt_u J1 B 15 (nI z1.1)) B 15 (nI (z1.1 + 1))))) rfl k
          rw [if_neg (show ¬ ((Int32.ofInt 1) = 0) from by decide)] at k
          have k := ly_revb 2 (c' := (97, [(3, .int (Int32.ofInt 1)), (2, .int (nI z1.1)), (1, .int (lb_g f t z1.1)), (0, .ref B)], [.ref B, .ref B], me_w M (nt_u (nt_u J1 B 15 (nI z1.1)) B 15 (nI (z1.1 + 1))))) rfl k
          have k := lz_get (a := B) (g := 1115) (M := me_w M (nt_u (nt_u J1 B 15 (nI z1.1)) B 15 (nI (z1.1 + 1)))) (v := .int (nI (z1.1 + 1))) rfl (congrArg Value.int (hN1.1)) k
          have k := ly_revb 2 (c' := (102, [(3, .int (Int32.ofInt 1)), (2, .int (nI z1.1)), (1, .int (lb_g f t z1.1)), (0, .ref B)], [.int ((nI (z1.1 + 1)) + (Int32.ofInt 1)), .ref B], me_w M (nt_u (nt_u J1 B 15 (nI z1.1)) B 15 (nI (z1.1 + 1))))) rfl k
          rw [show ((nI (z1.1 + 1)) + (Int32.ofInt 1) : Int32) = nI ((z1.1 + 1) + 1) from me_add (k := 1)] at k
          have k := me_put rfl (by decide) k
          have k : nt_rn X _ 161 (105, [(3, .int (Int32.ofInt 1)), (2, .int (nI z1.1)), (1, .int (lb_g f t z1.1)), (0, .ref B)], [], me_w M (nt_u (nt_u (nt_u J1 B 15 (nI z1.1)) B 15 (nI (z1.1 + 1))) B 15 (nI ((z1.1 + 1) + 1)))) _ := k
          have hN2 := md_Sq (y := z1.1 + 2) hP hN1
          have k := ly_revb 2 (c' := (107, [(3, .int (Int32.ofInt 1)), (2, .int (nI z1.1)), (1, .int (lb_g f t z1.1)), (0, .ref B)], [.int (nI z1.1), .ref B], me_w M (nt_u (nt_u (nt_u J1 B 15 (nI z1.1)) B 15 (nI (z1.1 + 1))) B 15 (nI ((z1.1 + 1) + 1))))) rfl k
          obtain ⟨d1, o1, ed, kc, k⟩ := lz_c (g := 154) (q := 1) (vs := [.ref B, .int (nI z1.1)]) (rest := []) rfl rfl (by decide) (Or.inr (Or.inl ⟨_, rfl, rfl⟩)) rfl k
          rcases md_makes (a := z1.1) hP hN2 (show z1.1 + 2 ≤ t by omega) rfl kc with ⟨hm, e1⟩ | ⟨hm, e1⟩
          · subst e1
            have hS6 := md_Sw (y := lb_c z1.1 (Int32.ofInt 3)) hP hN2
            have k : nt_rn X _ 161 (110, [(3, .int (Int32.ofInt 1)), (2, .int (nI z1.1)), (1, .int (lb_g f t z1.1)), (0, .ref B)], [.int (Int32.ofInt 0)], me_w M (nt_u (nt_u (nt_u (nt_u J1 B 15 (nI z1.1)) B 15 (nI (z1.1 + 1))) B 15 (nI ((z1.1 + 1) + 1))) B 16 (lb_c z1.1 (Int32.ofInt 3)))) _ := k
            have k := ly_revb 1 (c' := (if (Int32.ofInt 0) = 0 then 113 else 115, [(3, .int (Int32.ofInt 1)), (2, .int (nI z1.1)), (1, .int (lb_g f t z1.1)), (0, .ref B)], [], me_w M (nt_u (nt_u (nt_u (nt_u J1 B 15 (nI z1.1)) B 15 (nI (z1.1 + 1))) B 15 (nI ((z1.1 + 1) + 1))) B 16 (lb_c z1.1 (Int32.ofInt 3))))) rfl k
            rw [if_pos (show (Int32.ofInt 0) = 0 from by decide)] at k
            have k := ly_revb 1 (c' := (114, [(3, .int (Int32.ofInt 1)), (2, .int (nI z1.1)), (1, .int (lb_g f t z1.1)), (0, .ref B)], [.int (Int32.ofInt 0)], me_w M (nt_u (nt_u (nt_u (nt_u J1 B 15 (nI z1.1)) B 15 (nI (z1.1 + 1))) B 15 (nI ((z1.1 + 1) + 1))) B 16 (lb_c z1.1 (Int32.ofInt 3))))) rfl k
            have k := lz_ri rfl (by decide) k
            have hcm : lb_cm f t z1.1 (Int32.ofInt 15) := Or.inl ⟨h22, ⟨by omega, h82⟩, rfl⟩
            exact ⟨.inl (lb_c z1.1 (Int32.ofInt 3)), _, _, k, ⟨_, hv1, Or.inr ⟨z1, rfl, _, _, ⟨hcm, Or.inr (Or.inl ⟨by decide, hm, rfl⟩)⟩, Or.inl ⟨_, rfl, rfl⟩⟩⟩, (lb_c_ne (by omega) (by decide) (by decide)), rfl, _, _, _, hS6, (show z1.1 + 2 ≤ t by omega)⟩
          · subst e1
            have hS6 := md_Sm (y := z1.2.1 + 1) hP hN2 (by omega)
            have k : nt_rn X _ 161 (110, [(3, .int (Int32.ofInt 1)), (2, .int (nI z1.1)), (1, .int (lb_g f t z1.1)), (0, .ref B)], [.int (Int32.ofInt 1)], me_w M (nt_u (nt_u (nt_u (nt_u J1 B 15 (nI z1.1)) B 15 (nI (z1.1 + 1))) B 15 (nI ((z1.1 + 1) + 1))) B 19 (nI (z1.2.1 + 1)))) _ := k
            have k := ly_revb 1 (c' := (if (Int32.ofInt 1) = 0 then 113 else 115, [(3, .int (Int32.ofInt 1)), (2, .int (nI z1.1)), (1, .int (lb_g f t z1.1)), (0, .ref B)], [], me_w M (nt_u (nt_u (nt_u (nt_u J1 B 15 (nI z1.1)) B 15 (nI (z1.1 + 1))) B 15 (nI ((z1.1 + 1) + 1))) B 19 (nI (z1.2.1 + 1))))) rfl k
            rw [if_neg (show ¬ ((Int32.ofInt 1) = 0) from by decide)] at k
            have k := ly_revb 3 (c' := (if (lb_g f t z1.1) = (Int32.ofInt 60) then 121 else 133, [(3, .int (Int32.ofInt 1)), (2, .int (nI z1.1)), (1, .int (lb_g f t z1.1)), (0, .ref B)], [], me_w M (nt_u (nt_u (nt_u (nt_u J1 B 15 (nI z1.1)) B 15 (nI (z1.1 + 1))) B 15 (nI ((z1.1 + 1) + 1))) B 19 (nI (z1.2.1 + 1))))) rfl k
            rw [if_pos (show (lb_g f t z1.1) = (Int32.ofInt 60) from h22)] at k
            have k := ly_revb 2 (c' := (if (Int32.ofInt 1) = 0 then 129 else 125, [(3, .int (Int32.ofInt 1)), (2, .int (nI z1.1)), (1, .int (lb_g f t z1.1)), (0, .ref B)], [], me_w M (nt_u (nt_u (nt_u (nt_u J1 B 15 (nI z1.1)) B 15 (nI (z1.1 + 1))) B 15 (nI ((z1.1 + 1) + 1))) B 19 (nI (z1.2.1 + 1))))) rfl k
            rw [if_neg (show ¬ ((Int32.ofInt 1) = 0) from by decide)] at k
            have k := ly_revb 4 (c' := (155, [(4, .int (Int32.ofInt 1)), (3, .int (Int32.ofInt 1)), (2, .int (nI z1.1)), (1, .int (lb_g f t z1.1)), (0, .ref B)], [.ref B], me_w M (nt_u (nt_u (nt_u (nt_u J1 B 15 (nI z1.1)) B 15 (nI (z1.1 + 1))) B 15 (nI ((z1.1 + 1) + 1))) B 19 (nI (z1.2.1 + 1))))) rfl k
            obtain ⟨d1, o1, ed, kc, k⟩ := lz_c (g := 151) (q := 1) (vs := [.ref B]) (rest := []) rfl rfl (by decide) (Or.inr (Or.inl ⟨_, rfl, rfl⟩)) rfl k
            obtain ⟨r2, a2, J2, e1, hv2, hQ2⟩ := md_sum (s0 := z1.2.2.1) hP hB hS6 (show z1.1 + 2 ≤ t by omega) kc
            subst e1
            rcases r2 with c | z2
            · obtain ⟨hc, rfl, q2, m2, e2, hT2, hq2⟩ := hQ2
              have k : nt_rn X _ 161 (158, [(4, .int (Int32.ofInt 1)), (3, .int (Int32.ofInt 1)), (2, .int (nI z1.1)), (1, .int (lb_g f t z1.1)), (0, .ref B)], [.int (Int32.ofInt 0)], me_w M J2) _ := k
              have k := ly_revb 1 (c' := (if (Int32.ofInt 0) = 0 then 161 else 163, [(4, .int (Int32.ofInt 1)), (3, .int (Int32.ofInt 1)), (2, .int (nI z1.1)), (1, .int (lb_g f t z1.1)), (0, .ref B)], [], me_w M J2)) rfl k
              rw [if_pos (show (Int32.ofInt 0) = 0 from by decide)] at k
              have k := ly_revb 1 (c' := (162, [(4, .int (Int32.ofInt 1)), (3, .int (Int32.ofInt 1)), (2, .int (nI z1.1)), (1, .int (lb_g f t z1.1)), (0, .ref B)], [.int (Int32.ofInt 0)], me_w M J2)) rfl k
              have k := lz_ri rfl (by decide) k
              have hcm : lb_cm f t z1.1 (Int32.ofInt 15) := Or.inl ⟨h22, ⟨by omega, h82⟩, rfl⟩
              have hcl : lb_cl (Int32.ofInt 15) = 2 := by decide
              have hv3 : lb_sum f t (lb_s f t (z1.1 + lb_cl (Int32.ofInt 15)), z1.2.1 + 1, z1.2.2) (.inl c) := by rw [hcl]; exact hv2
              exact ⟨.inl c, _, _, k, ⟨_, hv1, Or.inr ⟨z1, rfl, _, _, ⟨hcm, Or.inr (Or.inr ⟨by decide, hm, rfl⟩)⟩, Or.inr ⟨_, rfl, _, hv3, Or.inl ⟨c, rfl, rfl⟩⟩⟩⟩, hc, rfl, _, _, _, hT2, hq2⟩
            · obtain ⟨rfl, q2, hz2, hq2, hT2⟩ := hQ2
              have k : nt_rn X _ 161 (158, [(4, .int (Int32.ofInt 1)), (3, .int (Int32.ofInt 1)), (2, .int (nI z1.1)), (1, .int (lb_g f t z1.1)), (0, .ref B)], [.int (Int32.ofInt 1)], me_w M J2) _ := k
              have k := ly_revb 1 (c' := (if (Int32.ofInt 1) = 0 then 161 else 163, [(4, .int (Int32.ofInt 1)), (3, .int (Int32.ofInt 1)), (2, .int (nI z1.1)), (1, .int (lb_g f t z1.1)), (0, .ref B)], [], me_w M J2)) rfl k
              rw [if_neg (show ¬ ((Int32.ofInt 1) = 0) from by decide)] at k
              have k := ly_revb 5 (c' := (170, [(4, .int (Int32.ofInt 1)), (3, .int (Int32.ofInt 1)), (2, .int (nI z1.1)), (1, .int (lb_g f t z1.1)), (0, .ref B)], [.int (Int32.ofInt 0), .int ((Int32.ofInt 6) + (Int32.ofInt 1)), .ref B], me_w M J2)) rfl k
              obtain ⟨d1, o1, ed, kc, k⟩ := lz_c (g := 155) (q := 1) (vs := [.ref B, .int ((Int32.ofInt 6) + (Int32.ofInt 1)), .int (Int32.ofInt 0)]) (rest := []) rfl rfl (by decide) (Or.inr (Or.inl ⟨_, rfl, rfl⟩)) rfl k
              obtain ⟨hb, e1⟩ := md_puts hP hT2 hq2 kc
              subst e1
              have hU2 := md_Se (y := ((Int32.ofInt 6) + (Int32.ofInt 1)) + Int32.ofInt 16 * (Int32.ofInt 0)) hP hT2 hb
              have k : nt_rn X _ 161 (173, [(4, .int (Int32.ofInt 1)), (3, .int (Int32.ofInt 1)), (2, .int (nI z1.1)), (1, .int (lb_g f t z1.1)), (0, .ref B)], [], me_w M (nt_u (nt_u J2 Sg (400 * x + z2.2.2.2.1) (((Int32.ofInt 6) + (Int32.ofInt 1)) + Int32.ofInt 16 * (Int32.ofInt 0))) Ln x (nI (z2.2.2.2.1 + 1)))) _ := k
              have k := ly_revb 1 (c' := (174, [(4, .int (Int32.ofInt 1)), (3, .int (Int32.ofInt 1)), (2, .int (nI z1.1)), (1, .int (lb_g f t z1.1)), (0, .ref B)], [.int (Int32.ofInt 1)], me_w M (nt_u (nt_u J2 Sg (400 * x + z2.2.2.2.1) (((Int32.ofInt 6) + (Int32.ofInt 1)) + Int32.ofInt 16 * (Int32.ofInt 0))) Ln x (nI (z2.2.2.2.1 + 1))))) rfl k
              have k := lz_ri rfl (by decide) k
              have hcm : lb_cm f t z1.1 (Int32.ofInt 15) := Or.inl ⟨h22, ⟨by omega, h82⟩, rfl⟩
              have hcl : lb_cl (Int32.ofInt 15) = 2 := by decide
              have hv3 : lb_sum f t (lb_s f t (z1.1 + lb_cl (Int32.ofInt 15)), z1.2.1 + 1, z1.2.2) (.inr z2) := by rw [hcl]; exact hv2
              rw [show ((Int32.ofInt 6) + (Int32.ofInt 1)) + Int32.ofInt 16 * (Int32.ofInt 0) = Int32.ofInt 15 - Int32.ofInt 8 from by decide] at hU2
              rw [show ((Int32.ofInt 6) + (Int32.ofInt 1)) + Int32.ofInt 16 * (Int32.ofInt 0) = Int32.ofInt 15 - Int32.ofInt 8 from by decide] at k
              exact ⟨.inr (z2.1, z2.2.1, lb_em z2.2.2 (Int32.ofInt 15) (Int32.ofInt 15 - Int32.ofInt 8)), _, _, k, ⟨_, hv1, Or.inr ⟨z1, rfl, _, _, ⟨hcm, Or.inr (Or.inr ⟨by decide, hm, rfl⟩)⟩, Or.inr ⟨_, rfl, _, hv3, Or.inr ⟨z2, rfl, rfl⟩⟩⟩⟩, rfl, _, hz2, hq2, hU2⟩
        · rw [if_neg (show ¬ ((f ((z1.1 + 1))) = (Int32.ofInt 61)) from h82)] at k
          have k := ly_revb 4 (c' := (if (Int32.ofInt 0) = 0 then 105 else 95, [(3, .int (Int32.ofInt 0)), (2, .int (nI z1.1)), (1, .int (lb_g f t z1.1)), (0, .ref B)], [], me_w M (nt_u (nt_u J1 B 15 (nI z1.1)) B 15 (nI (z1.1 + 1))))) rfl k
          rw [if_pos (show (Int32.ofInt 0) = 0 from by decide)] at k
          have k := ly_revb 2 (c' := (107, [(3, .int (Int32.ofInt 0)), (2, .int (nI z1.1)), (1, .int (lb_g f t z1.1)), (0, .ref B)], [.int (nI z1.1), .ref B], me_w M (nt_u (nt_u J1 B 15 (nI z1.1)) B 15 (nI (z1.1 + 1))))) rfl k
          obtain ⟨d1, o1, ed, kc, k⟩ := lz_c (g := 154) (q := 1) (vs := [.ref B, .int (nI z1.1)]) (rest := []) rfl rfl (by decide) (Or.inr (Or.inl ⟨_, rfl, rfl⟩)) rfl k
          rcases md_makes (a := z1.1) hP hN1 (show z1.1 + 1 ≤ t from hlt) rfl kc with ⟨hm, e1⟩ | ⟨hm, e1⟩
          · subst e1
            have hS6 := md_Sw (y := lb_c z1.1 (Int32.ofInt 3)) hP hN1
            have k : nt_rn X _ 161 (110, [(3, .int (Int32.ofInt 0)), (2, .int (nI z1.1)), (1, .int (lb_g f t z1.1)), (0, .ref B)], [.int (Int32.ofInt 0)], me_w M (nt_u (nt_u (nt_u J1 B 15 (nI z1.1)) B 15 (nI (z1.1 + 1))) B 16 (lb_c z1.1 (Int32.ofInt 3)))) _ := k
            have k := ly_revb 1 (c' := (if (Int32.ofInt 0) = 0 then 113 else 115, [(3, .int (Int32.ofInt 0)), (2, .int (nI z1.1)), (1, .int (lb_g f t z1.1)), (0, .ref B)], [], me_w M (nt_u (nt_u (nt_u J1 B 15 (nI z1.1)) B 15 (nI (z1.1 + 1))) B 16 (lb_c z1.1 (Int32.ofInt 3))))) rfl k
            rw [if_pos (show (Int32.ofInt 0) = 0 from by decide)] at k
            have k := ly_revb 1 (c' := (114, [(3, .int (Int32.ofInt 0)), (2, .int (nI z1.1)), (1, .int (lb_g f t z1.1)), (0, .ref B)], [.int (Int32.ofInt 0)], me_w M (nt_u (nt_u (nt_u J1 B 15 (nI z1.1)) B 15 (nI (z1.1 + 1))) B 16 (lb_c z1.1 (Int32.ofInt 3))))) rfl k
            have k := lz_ri rfl (by decide) k
            have hcm : lb_cm f t z1.1 (Int32.ofInt 14) := Or.inr (Or.inl ⟨h22, fun c => h82 c.2, rfl⟩)
            exact ⟨.inl (lb_c z1.1 (Int32.ofInt 3)), _, _, k, ⟨_, hv1, Or.inr ⟨z1, rfl, _, _, ⟨hcm, Or.inr (Or.inl ⟨by decide, hm, rfl⟩)⟩, Or.inl ⟨_, rfl, rfl⟩⟩⟩, (lb_c_ne (by omega) (by decide) (by decide)), rfl, _, _, _, hS6, (show z1.1 + 1 ≤ t from hlt)⟩
          · subst e1
            have hS6 := md_Sm (y := z1.2.1 + 1) hP hN1 (by omega)
            have k : nt_rn X _ 161 (110, [(3, .int (Int32.ofInt 0)), (2, .int (nI z1.1)), (1, .int (lb_g f t z1.1)), (0, .ref B)], [.int (Int32.ofInt 1)], me_w M (nt_u (nt_u (nt_u J1 B 15 (nI z1.1)) B 15 (nI (z1.1 + 1))) B 19 (nI (z1.2.1 + 1)))) _ := k
            have k := ly_revb 1 (c' := (if (Int32.ofInt 1) = 0 then 113 else 115, [(3, .int (Int32.ofInt 0)), (2, .int (nI z1.1)), (1, .int (lb_g f t z1.1)), (0, .ref B)], [], me_w M (nt_u (nt_u (nt_u J1 B 15 (nI z1.1)) B 15 (nI (z1.1 + 1))) B 19 (nI (z1.2.1 + 1))))) rfl k
            rw [if_neg (show ¬ ((Int32.ofInt 1) = 0) from by decide)] at k
            have k := ly_revb 3 (c' := (if (lb_g f t z1.1) = (Int32.ofInt 60) then 121 else 133, [(3, .int (Int32.ofInt 0)), (2, .int (nI z1.1)), (1, .int (lb_g f t z1.1)), (0, .ref B)], [], me_w M (nt_u (nt_u (nt_u J1 B 15 (nI z1.1)) B 15 (nI (z1.1 + 1))) B 19 (nI (z1.2.1 + 1))))) rfl k
            rw [if_pos (show (lb_g f t z1.1) = (Int32.ofInt 60) from h22)] at k
            have k := ly_revb 2 (c' := (if (Int32.ofInt 0) = 0 then 129 else 125, [(3, .int (Int32.ofInt 0)), (2, .int (nI z1.1)), (1, .int (lb_g f t z1.1)), (0, .ref B)], [], me_w M (nt_u (nt_u (nt_u J1 B 15 (nI z1.1)) B 15 (nI (z1.1 + 1))) B 19 (nI (z1.2.1 + 1))))) rfl k
            rw [if_pos (show (Int32.ofInt 0) = 0 from by decide)] at k
            have k := ly_revb 4 (c' := (155, [(4, .int (Int32.ofInt 0)), (3, .int (Int32.ofInt 0)), (2, .int (nI z1.1)), (1, .int (lb_g f t z1.1)), (0, .ref B)], [.ref B], me_w M (nt_u (nt_u (nt_u J1 B 15 (nI z1.1)) B 15 (nI (z1.1 + 1))) B 19 (nI (z1.2.1 + 1))))) rfl k
            obtain ⟨d1, o1, ed, kc, k⟩ := lz_c (g := 151) (q := 1) (vs := [.ref B]) (rest := []) rfl rfl (by decide) (Or.inr (Or.inl ⟨_, rfl, rfl⟩)) rfl k
            obtain ⟨r2, a2, J2, e1, hv2, hQ2⟩ := md_sum (s0 := z1.2.2.1) hP hB hS6 (show z1.1 + 1 ≤ t from hlt) kc
            subst e1
            rcases r2 with c | z2
            · obtain ⟨hc, rfl, q2, m2, e2, hT2, hq2⟩ := hQ2
              have k : nt_rn X _ 161 (158, [(4, .int (Int32.ofInt 0)), (3, .int (Int32.ofInt 0)), (2, .int (nI z1.1)), (1, .int (lb_g f t z1.1)), (0, .ref B)], [.int (Int32.ofInt 0)], me_w M J2) _ := k
              have k := ly_revb 1 (c' := (if (Int32.ofInt 0) = 0 then 161 else 163, [(4, .int (Int32.ofInt 0)), (3, .int (Int32.ofInt 0)), (2, .int (nI z1.1)), (1, .int (lb_g f t z1.1)), (0, .ref B)], [], me_w M J2)) rfl k
              rw [if_pos (show (Int32.ofInt 0) = 0 from by decide)] at k
              have k := ly_revb 1 (c' := (162, [(4, .int (Int32.ofInt 0)), (3, .int (Int32.ofInt 0)), (2, .int (nI z1.1)), (1, .int (lb_g f t z1.1)), (0, .ref B)], [.int (Int32.ofInt 0)], me_w M J2)) rfl k
              have k := lz_ri rfl (by decide) k
              have hcm : lb_cm f t z1.1 (Int32.ofInt 14) := Or.inr (Or.inl ⟨h22, fun c => h82 c.2, rfl⟩)
              have hcl : lb_cl (Int32.ofInt 14) = 1 := by decide
              have hv3 : lb_sum f t (lb_s f t (z1.1 + lb_cl (Int32.ofInt 14)), z1.2.1 + 1, z1.2.2) (.inl c) := by rw [hcl]; exact hv2
              exact ⟨.inl c, _, _, k, ⟨_, hv1, Or.inr ⟨z1, rfl, _, _, ⟨hcm, Or.inr (Or.inr ⟨by decide, hm, rfl⟩)⟩, Or.inr ⟨_, rfl, _, hv3, Or.inl ⟨c, rfl, rfl⟩⟩⟩⟩, hc, rfl, _, _, _, hT2, hq2⟩
            · obtain ⟨rfl, q2, hz2, hq2, hT2⟩ := hQ2
              have k : nt_rn X _ 161 (158, [(4, .int (Int32.ofInt 0)), (3, .int (Int32.ofInt 0)), (2, .int (nI z1.1)), (1, .int (lb_g f t z1.1)), (0, .ref B)], [.int (Int32.ofInt 1)], me_w M J2) _ := k
              have k := ly_revb 1 (c' := (if (Int32.ofInt 1) = 0 then 161 else 163, [(4, .int (Int32.ofInt 0)), (3, .int (Int32.ofInt 0)), (2, .int (nI z1.1)), (1, .int (lb_g f t z1.1)), (0, .ref B)], [], me_w M J2)) rfl k
              rw [if_neg (show ¬ ((Int32.ofInt 1) = 0) from by decide)] at k
              have k := ly_revb 5 (c' := (170, [(4, .int (Int32.ofInt 0)), (3, .int (Int32.ofInt 0)), (2, .int (nI z1.1)), (1, .int (lb_g f t z1.1)), (0, .ref B)], [.int (Int32.ofInt 0), .int ((Int32.ofInt 6) + (Int32.ofInt 0)), .ref B], me_w M J2)) rfl k
              obtain ⟨d1, o1, ed, kc, k⟩ := lz_c (g := 155) (q := 1) (vs := [.ref B, .int ((Int32.ofInt 6) + (Int32.ofInt 0)), .int (Int32.ofInt 0)]) (rest := []) rfl rfl (by decide) (Or.inr (Or.inl ⟨_, rfl, rfl⟩)) rfl k
              obtain ⟨hb, e1⟩ := md_puts hP hT2 hq2 kc
              subst e1
              have hU2 := md_Se (y := ((Int32.ofInt 6) + (Int32.ofInt 0)) + Int32.ofInt 16 * (Int32.ofInt 0)) hP hT2 hb
              have k : nt_rn X _ 161 (173, [(4, .int (Int32.ofInt 0)), (3, .int (Int32.ofInt 0)), (2, .int (nI z1.1)), (1, .int (lb_g f t z1.1)), (0, .ref B)], [], me_w M (nt_u (nt_u J2 Sg (400 * x + z2.2.2.2.1) (((Int32.ofInt 6) + (Int32.ofInt 0)) + Int32.ofInt 16 * (Int32.ofInt 0))) Ln x (nI (z2.2.2.2.1 + 1)))) _ := k
              have k := ly_revb 1 (c' := (174, [(4, .int (Int32.ofInt 0)), (3, .int (Int32.ofInt 0)), (2, .int (nI z1.1)), (1, .int (lb_g f t z1.1)), (0, .ref B)], [.int (Int32.ofInt 1)], me_w M (nt_u (nt_u J2 Sg (400 * x + z2.2.2.2.1) (((Int32.ofInt 6) + (Int32.ofInt 0)) + Int32.ofInt 16 * (Int32.ofInt 0))) Ln x (nI (z2.2.2.2.1 + 1))))) rfl k
              have k := lz_ri rfl (by decide) k
              have hcm : lb_cm f t z1.1 (Int32.ofInt 14) := Or.inr (Or.inl ⟨h22, fun c => h82 c.2, rfl⟩)
              have hcl : lb_cl (Int32.ofInt 14) = 1 := by decide
              have hv3 : lb_sum f t (lb_s f t (z1.1 + lb_cl (Int32.ofInt 14)), z1.2.1 + 1, z1.2.2) (.inr z2) := by rw [hcl]; exact hv2
              rw [show ((Int32.ofInt 6) + (Int32.ofInt 0)) + Int32.ofInt 16 * (Int32.ofInt 0) = Int32.ofInt 14 - Int32.ofInt 8 from by decide] at hU2
              rw [show ((Int32.ofInt 6) + (Int32.ofInt 0)) + Int32.ofInt 16 * (Int32.ofInt 0) = Int32.ofInt 14 - Int32.ofInt 8 from by decide] at k
              exact ⟨.inr (z2.1, z2.2.1, lb_em z2.2.2 (Int32.ofInt 14) (Int32.ofInt 14 - Int32.ofInt 8)), _, _, k, ⟨_, hv1, Or.inr ⟨z1, rfl, _, _, ⟨hcm, Or.inr (Or.inr ⟨by decide, hm, rfl⟩)⟩, Or.inr ⟨_, rfl, _, hv3, Or.inr ⟨z2, rfl, rfl⟩⟩⟩⟩, rfl, _, hz2, hq2, hU2⟩
    · rw [if_neg (show ¬ ((lb_g f t z1.1) = (Int32.ofInt 60)) from h22)] at k
      have k := ly_revb 3 (c' := (if (lb_g f t z1.1) = (Int32.ofInt 61) then 44 else 31, [(2, .int (nI z1.1)), (1, .int (lb_g f t z1.1)), (0, .ref B)], [], me_w M (nt_u J1 B 15 (nI z1.1)))) rfl k
      by_cases h28 : lb_g f t z1.1 = Int32.ofInt 61
      · rw [if_pos (show (lb_g f t z1.1) = (Int32.ofInt 61) from h28)] at k
        have k := ly_revb 2 (c' := (46, [(2, .int (nI z1.1)), (1, .int (lb_g f t z1.1)), (0, .ref B)], [.ref B, .ref B], me_w M (nt_u J1 B 15 (nI z1.1)))) rfl k
        have k := lz_get (a := B) (g := 1115) (M := me_w M (nt_u J1 B 15 (nI z1.1))) (v := .int (nI z1.1)) rfl (congrArg Value.int (hS2.1)) k
        have k := ly_revb 2 (c' := (51, [(2, .int (nI z1.1)), (1, .int (lb_g f t z1.1)), (0, .ref B)], [.int ((nI z1.1) + (Int32.ofInt 1)), .ref B], me_w M (nt_u J1 B 15 (nI z1.1)))) rfl k
        rw [show ((nI z1.1) + (Int32.ofInt 1) : Int32) = nI (z1.1 + 1) from me_add (k := 1)] at k
        have k := me_put rfl (by decide) k
        have k : nt_rn X _ 161 (54, [(2, .int (nI z1.1)), (1, .int (lb_g f t z1.1)), (0, .ref B)], [], me_w M (nt_u (nt_u J1 B 15 (nI z1.1)) B 15 (nI (z1.1 + 1)))) _ := k
        have hN1 := md_Sq (y := z1.1 + 1) hP hS2
        have hlt : z1.1 < t := lb_g_lt (by rw [h28]; decide)
        have k := ly_revb 3 (c' := (if (lb_g f t z1.1) = (Int32.ofInt 61) then 89 else 60, [(2, .int (nI z1.1)), (1, .int (lb_g f t z1.1)), (0, .ref B)], [], me_w M (nt_u (nt_u J1 B 15 (nI z1.1)) B 15 (nI (z1.1 + 1))))) rfl k
        rw [if_pos (show (lb_g f t z1.1) = (Int32.ofInt 61) from h28)] at k
        have k := ly_revb 4 (c' := (if (Int32.ofInt 0) = 0 then 105 else 95, [(3, .int (Int32.ofInt 0)), (2, .int (nI z1.1)), (1, .int (lb_g f t z1.1)), (0, .ref B)], [], me_w M (nt_u (nt_u J1 B 15 (nI z1.1)) B 15 (nI (z1.1 + 1))))) rfl k
        rw [if_pos (show (Int32.ofInt 0) = 0 from by decide)] at k
        have k := ly_revb 2 (c' := (107, [(3, .int (Int32.ofInt 0)), (2, .int (nI z1.1)), (1, .int (lb_g f t z1.1)), (0, .ref B)], [.int (nI z1.1), .ref B], me_w M (nt_u (nt_u J1 B 15 (nI z1.1)) B 15 (nI (z1.1 + 1))))) rfl k
        obtain ⟨d1, o1, ed, kc, k⟩ := lz_c (g := 154) (q := 1) (vs := [.ref B, .int (nI z1.1)]) (rest := []) rfl rfl (by decide) (Or.inr (Or.inl ⟨_, rfl, rfl⟩)) rfl k
        rcases md_makes (a := z1.1) hP hN1 (show z1.1 + 1 ≤ t from hlt) rfl kc with ⟨hm, e1⟩ | ⟨hm, e1⟩
        · subst e1
          have hS6 := md_Sw (y := lb_c z1.1 (Int32.ofInt 3)) hP hN1
          have k : nt_rn X _ 161 (110, [(3, .int (Int32.ofInt 0)), (2, .int (nI z1.1)), (1, .int (lb_g f t z1.1)), (0, .ref B)], [.int (Int32.ofInt 0)], me_w M (nt_u (nt_u (nt_u J1 B 15 (nI z1.1)) B 15 (nI (z1.1 + 1))) B 16 (lb_c z1.1 (Int32.ofInt 3)))) _ := k
          have k := ly_revb 1 (c' := (if (Int32.ofInt 0) = 0 then 113 else 115, [(3, .int (Int32.ofInt 0)), (2, .int (nI z1.1)), (1, .int (lb_g f t z1.1)), (0, .ref B)], [], me_w M (nt_u (nt_u (nt_u J1 B 15 (nI z1.1)) B 15 (nI (z1.1 + 1))) B 16 (lb_c z1.1 (Int32.ofInt 3))))) rfl k
          rw [if_pos (show (Int32.ofInt 0) = 0 from by decide)] at k
          have k := ly_revb 1 (c' := (114, [(3, .int (Int32.ofInt 0)), (2, .int (nI z1.1)), (1, .int (lb_g f t z1.1)), (0, .ref B)], [.int (Int32.ofInt 0)], me_w M (nt_u (nt_u (nt_u J1 B 15 (nI z1.1)) B 15 (nI (z1.1 + 1))) B 16 (lb_c z1.1 (Int32.ofInt 3))))) rfl k
          have k := lz_ri rfl (by decide) k
          have hcm : lb_cm f t z1.1 (Int32.ofInt 16) := Or.inr (Or.inr (Or.inl ⟨h28, rfl⟩))
          exact ⟨.inl (lb_c z1.1 (Int32.ofInt 3)), _, _, k, ⟨_, hv1, Or.inr ⟨z1, rfl, _, _, ⟨hcm, Or.inr (Or.inl ⟨by decide, hm, rfl⟩)⟩, Or.inl ⟨_, rfl, rfl⟩⟩⟩, (lb_c_ne (by omega) (by decide) (by decide)), rfl, _, _, _, hS6, (show z1.1 + 1 ≤ t from hlt)⟩
        · subst e1
          have hS6 := md_Sm (y := z1.2.1 + 1) hP hN1 (by omega)
          have k : nt_rn X _ 161 (110, [(3, .int (Int32.ofInt 0)), (2, .int (nI z1.1)), (1, .int (lb_g f t z1.1)), (0, .ref B)], [.int (Int32.ofInt 1)], me_w M (nt_u (nt_u (nt_u J1 B 15 (nI z1.1)) B 15 (nI (z1.1 + 1))) B 19 (nI (z1.2.1 + 1)))) _ := k
          have k := ly_revb 1 (c' := (if (Int32.ofInt 1) = 0 then 113 else 115, [(3, .int (Int32.ofInt 0)), (2, .int (nI z1.1)), (1, .int (lb_g f t z1.1)), (0, .ref B)], [], me_w M (nt_u (nt_u (nt_u J1 B 15 (nI z1.1)) B 15 (nI (z1.1 + 1))) B 19 (nI (z1.2.1 + 1))))) rfl k
          rw [if_neg (show ¬ ((Int32.ofInt 1) = 0) from by decide)] at k
          have k := ly_revb 3 (c' := (if (lb_g f t z1.1) = (Int32.ofInt 60) then 121 else 133, [(3, .int (Int32.ofInt 0)), (2, .int (nI z1.1)), (1, .int (lb_g f t z1.1)), (0, .ref B)], [], me_w M (nt_u (nt_u (nt_u J1 B 15 (nI z1.1)) B 15 (nI (z1.1 + 1))) B 19 (nI (z1.2.1 + 1))))) rfl k
          rw [if_neg (show ¬ ((lb_g f t z1.1) = (Int32.ofInt 60)) from h22)] at k
          have k := ly_revb 3 (c' := (if (lb_g f t z1.1) = (Int32.ofInt 61) then 139 else 143, [(3, .int (Int32.ofInt 0)), (2, .int (nI z1.1)), (1, .int (lb_g f t z1.1)), (0, .ref B)], [], me_w M (nt_u (nt_u (nt_u J1 B 15 (nI z1.1)) B 15 (nI (z1.1 + 1))) B 19 (nI (z1.2.1 + 1))))) rfl k
          rw [if_pos (show (lb_g f t z1.1) = (Int32.ofInt 61) from h28)] at k
          have k := ly_revb 4 (c' := (155, [(4, .int (Int32.ofInt 2)), (3, .int (Int32.ofInt 0)), (2, .int (nI z1.1)), (1, .int (lb_g f t z1.1)), (0, .ref B)], [.ref B], me_w M (nt_u (nt_u (nt_u J1 B 15 (nI z1.1)) B 15 (nI (z1.1 + 1))) B 19 (nI (z1.2.1 + 1))))) rfl k
          obtain ⟨d1, o1, ed, kc, k⟩ := lz_c (g := 151) (q := 1) (vs := [.ref B]) (rest := []) rfl rfl (by decide) (Or.inr (Or.inl ⟨_, rfl, rfl⟩)) rfl k
          obtain ⟨r2, a2, J2, e1, hv2, hQ2⟩ := md_sum (s0 := z1.2.2.1) hP hB hS6 (show z1.1 + 1 ≤ t from hlt) kc
          subst e1
          rcases r2 with c | z2
          · obtain ⟨hc, rfl, q2, m2, e2, hT2, hq2⟩ := hQ2
            have k : nt_rn X _ 161 (158, [(4, .int (Int32.ofInt 2)), (3, .int (Int32.ofInt 0)), (2, .int (nI z1.1)), (1, .int (lb_g f t z1.1)), (0, .ref B)], [.int (Int32.ofInt 0)], me_w M J2) _ := k
            have k := ly_revb 1 (c' := (if (Int32.ofInt 0) = 0 then 161 else 163, [(4, .int (Int32.ofInt 2)), (3, .int (Int32.ofInt 0)), (2, .int (nI z1.1)), (1, .int (lb_g f t z1.1)), (0, .ref B)], [], me_w M J2)) rfl k
            rw [if_pos (show (Int32.ofInt 0) = 0 from by decide)] at k
            have k := ly_revb 1 (c' := (162, [(4, .int (Int32.ofInt 2)), (3, .int (Int32.ofInt 0)), (2, .int (nI z1.1)), (1, .int (lb_g f t z1.1)), (0, .ref B)], [.int (Int32.ofInt 0)], me_w M J2)) rfl k
            have k := lz_ri rfl (by decide) k
            have hcm : lb_cm f t z1.1 (Int32.ofInt 16) := Or.inr (Or.inr (Or.inl ⟨h28, rfl⟩))
            have hcl : lb_cl (Int32.ofInt 16) = 1 := by decide
            have hv3 : lb_sum f t (lb_s f t (z1.1 + lb_cl (Int32.ofInt 16)), z1.2.1 + 1, z1.2.2) (.inl c) := by rw [hcl]; exact hv2
            exact ⟨.inl c, _, _, k, ⟨_, hv1, Or.inr ⟨z1, rfl, _, _, ⟨hcm, Or.inr (Or.inr ⟨by decide, hm, rfl⟩)⟩, Or.inr ⟨_, rfl, _, hv3, Or.inl ⟨c, rfl, rfl⟩⟩⟩⟩, hc, rfl, _, _, _, hT2, hq2⟩
          · obtain ⟨rfl, q2, hz2, hq2, hT2⟩ := hQ2
            have k : nt_rn X _ 161 (158, [(4, .int (Int32.ofInt 2)), (3, .int (Int32.ofInt 0)), (2, .int (nI z1.1)), (1, .int (lb_g f t z1.1)), (0, .ref B)], [.int (Int32.ofInt 1)], me_w M J2) _ := k
            have k := ly_revb 1 (c' := (if (Int32.ofInt 1) = 0 then 161 else 163, [(4, .int (Int32.ofInt 2)), (3, .int (Int32.ofInt 0)), (2, .int (nI z1.1)), (1, .int (lb_g f t z1.1)), (0, .ref B)], [], me_w M J2)) rfl k
            rw [if_neg (show ¬ ((Int32.ofInt 1) = 0) from by decide)] at k
            have k := ly_revb 5 (c' := (170, [(4, .int (Int32.ofInt 2)), (3, .int (Int32.ofInt 0)), (2, .int (nI z1.1)), (1, .int (lb_g f t z1.1)), (0, .ref B)], [.int (Int32.ofInt 0), .int ((Int32.ofInt 6) + (Int32.ofInt 2)), .ref B], me_w M J2)) rfl k
            obtain ⟨d1, o1, ed, kc, k⟩ := lz_c (g := 155) (q := 1) (vs := [.ref B, .int ((Int32.ofInt 6) + (Int32.ofInt 2)), .int (Int32.ofInt 0)]) (rest := []) rfl rfl (by decide) (Or.inr (Or.inl ⟨_, rfl, rfl⟩)) rfl k
            obtain ⟨hb, e1⟩ := md_puts hP hT2 hq2 kc
            subst e1
            have hU2 := md_Se (y := ((Int32.ofInt 6) + (Int32.ofInt 2)) + Int32.ofInt 16 * (Int32.ofInt 0)) hP hT2 hb
            have k : nt_rn X _ 161 (173, [(4, .int (Int32.ofInt 2)), (3, .int (Int32.ofInt 0)), (2, .int (nI z1.1)), (1, .int (lb_g f t z1.1)), (0, .ref B)], [], me_w M (nt_u (nt_u J2 Sg (400 * x + z2.2.2.2.1) (((Int32.ofInt 6) + (Int32.ofInt 2)) + Int32.ofInt 16 * (Int32.ofInt 0))) Ln x (nI (z2.2.2.2.1 + 1)))) _ := k
            have k := ly_revb 1 (c' := (174, [(4, .int (Int32.ofInt 2)), (3, .int (Int32.ofInt 0)), (2, .int (nI z1.1)), (1, .int (lb_g f t z1.1)), (0, .ref B)], [.int (Int32.ofInt 1)], me_w M (nt_u (nt_u J2 Sg (400 * x + z2.2.2.2.1) (((Int32.ofInt 6) + (Int32.ofInt 2)) + Int32.ofInt 16 * (Int32.ofInt 0))) Ln x (nI (z2.2.2.2.1 + 1))))) rfl k
            have k := lz_ri rfl (by decide) k
            have hcm : lb_cm f t z1.1 (Int32.ofInt 16) := Or.inr (Or.inr (Or.inl ⟨h28, rfl⟩))
            have hcl : lb_cl (Int32.ofInt 16) = 1 := by decide
            have hv3 : lb_sum f t (lb_s f t (z1.1 + lb_cl (Int32.ofInt 16)), z1.2.1 + 1, z1.2.2) (.inr z2) := by rw [hcl]; exact hv2
            rw [show ((Int32.ofInt 6) + (Int32.ofInt 2)) + Int32.ofInt 16 * (Int32.ofInt 0) = Int32.ofInt 16 - Int32.ofInt 8 from by decide] at hU2
            rw [show ((Int32.ofInt 6) + (Int32.ofInt 2)) + Int32.ofInt 16 * (Int32.ofInt 0) = Int32.ofInt 16 - Int32.ofInt 8 from by decide] at k
            exact ⟨.inr (z2.1, z2.2.1, lb_em z2.2.2 (Int32.ofInt 16) (Int32.ofInt 16 - Int32.ofInt 8)), _, _, k, ⟨_, hv1, Or.inr ⟨z1, rfl, _, _, ⟨hcm, Or.inr (Or.inr ⟨by decide, hm, rfl⟩)⟩, Or.inr ⟨_, rfl, _, hv3, Or.inr ⟨z2, rfl, rfl⟩⟩⟩⟩, rfl, _, hz2, hq2, hU2⟩
      · rw [if_neg (show ¬ ((lb_g f t z1.1) = (Int32.ofInt 61)) from h28)] at k
        have k := ly_revb 3 (c' := (if (lb_g f t z1.1) = (Int32.ofInt 62) then 44 else 37, [(2, .int (nI z1.1)), (1, .int (lb_g f t z1.1)), (0, .ref B)], [], me_w M (nt_u J1 B 15 (nI z1.1)))) rfl k
        by_cases h34 : lb_g f t z1.1 = Int32.ofInt 62
        · rw [if_pos (show (lb_g f t z1.1) = (Int32.ofInt 62) from h34)] at k
          have k := ly_revb 2 (c' := (46, [(2, .int (nI z1.1)), (1, .int (lb_g f t z1.1)), (0, .ref B)], [.ref B, .ref B], me_w M (nt_u J1 B 15 (nI z1.1)))) rfl k
          have k := lz_get (a := B) (g := 1115) (M := me_w M (nt_u J1 B 15 (nI z1.1))) (v := .int (nI z1.1)) rfl (congrArg Value.int (hS2.1)) k
          have k := ly_revb 2 (c' := (51, [(2, .int (nI z1.1)), (1, .int (lb_g f t z1.1)), (0, .ref B)], [.int ((nI z1.1) + (Int32.ofInt 1)), .ref B], me_w M (nt_u J1 B 15 (nI z1.1)))) rfl k
          rw [show ((nI z1.1) + (Int32.ofInt 1) : Int32) = nI (z1.1 + 1) from me_add (k := 1)] at k
          have k := me_put rfl (by decide) k
          have k : nt_rn X _ 161 (54, [(2, .int (nI z1.1)), (1, .int (lb_g f t z1.1)), (0, .ref B)], [], me_w M (nt_u (nt_u J1 B 15 (nI z1.1)) B 15 (nI (z1.1 + 1)))) _ := k
          have hN1 := md_Sq (y := z1.1 + 1) hP hS2
          have hlt : z1.1 < t := lb_g_lt (by rw [h34]; decide)
          have k := ly_revb 3 (c' := (if (lb_g f t z1.1) = (Int32.ofInt 61) then 89 else 60, [(2, .int (nI z1.1)), (1, .int (lb_g f t z1.1)), (0, .ref B)], [], me_w M (nt_u (nt_u J1 B 15 (nI z1.1)) B 15 (nI (z1.1 + 1))))) rfl k
          rw [if_neg (show ¬ ((lb_g f t z1.1) = (Int32.ofInt 61)) from by rw [h34]; decide)] at k
          have k := ly_revb 1 (c' := (61, [(2, .int (nI z1.1)), (1, .int (lb_g f t z1.1)), (0, .ref B)], [.ref B], me_w M (nt_u (nt_u J1 B 15 (nI z1.1)) B 15 (nI (z1.1 + 1))))) rfl k
          have k := lz_get (a := B) (g := 1115) (M := me_w M (nt_u (nt_u J1 B 15 (nI z1.1)) B 15 (nI (z1.1 + 1)))) (v := .int (nI (z1.1 + 1))) rfl (congrArg Value.int (hN1.1)) k
          have k := ly_revb 1 (c' := (65, [(2, .int (nI z1.1)), (1, .int (lb_g f t z1.1)), (0, .ref B)], [.ref B, .int (nI (z1.1 + 1))], me_w M (nt_u (nt_u J1 B 15 (nI z1.1)) B 15 (nI (z1.1 + 1))))) rfl k
          have k := lz_get (a := B) (g := 1101) (M := me_w M (nt_u (nt_u J1 B 15 (nI z1.1)) B 15 (nI (z1.1 + 1)))) (v := .int (nI t)) rfl (congrArg Value.int (md_t hP hN1)) k
          have k := ly_revb 1 (c' := (if (nI t) ≤ (nI (z1.1 + 1)) then 89 else 71, [(2, .int (nI z1.1)), (1, .int (lb_g f t z1.1)), (0, .ref B)], [], me_w M (nt_u (nt_u J1 B 15 (nI z1.1)) B 15 (nI (z1.1 + 1))))) rfl k
          by_cases h68 : t ≤ (z1.1 + 1)
          · rw [if_pos (show (nI t) ≤ (nI (z1.1 + 1)) from show nI t ≤ nI ((z1.1 + 1)) from nI_le h68 (by omega))] at k
            have k := ly_revb 4 (c' := (if (Int32.ofInt 0) = 0 then 105 else 95, [(3, .int (Int32.ofInt 0)), (2, .int (nI z1.1)), (1, .int (lb_g f t z1.1)), (0, .ref B)], [], me_w M (nt_u (nt_u J1 B 15 (nI z1.1)) B 15 (nI (z1.1 + 1))))) rfl k
            rw [if_pos (show (Int32.ofInt 0) = 0 from by decide)] at k
            have k := ly_revb 2 (c' := (107, [(3, .int (Int32.ofInt 0)), (2, .int (nI z1.1)), (1, .int (lb_g f t z1.1)), (0, .ref B)], [.int (nI z1.1), .ref B], me_w M (nt_u (nt_u J1 B 15 (nI z1.1)) B 15 (nI (z1.1 + 1))))) rfl k
            obtain ⟨d1, o1, ed, kc, k⟩ := lz_c (g := 154) (q := 1) (vs := [.ref B, .int (nI z1.1)]) (rest := []) rfl rfl (by decide) (Or.inr (Or.inl ⟨_, rfl, rfl⟩)) rfl k
            rcases md_makes (a := z1.1) hP hN1 (show z1.1 + 1 ≤ t from hlt) rfl kc with ⟨hm, e1⟩ | ⟨hm, e1⟩
            · subst e1
              have hS6 := md_Sw (y := lb_c z1.1 (Int32.ofInt 3)) hP hN1
              have k : nt_rn X _ 161 (110, [(3, .int (Int32.ofInt 0)), (2, .int (nI z1.1)), (1, .int (lb_g f t z1.1)), (0, .ref B)], [.int (Int32.ofInt 0)], me_w M (nt_u (nt_u (nt_u J1 B 15 (nI z1.1)) B 15 (nI (z1.1 + 1))) B 16 (lb_c z1.1 (Int32.ofInt 3)))) _ := k
              have k := ly_revb 1 (c' := (if (Int32.ofInt 0) = 0 then 113 else 115, [(3, .int (Int32.ofInt 0)), (2, .int (nI z1.1)), (1, .int (lb_g f t z1.1)), (0, .ref B)], [], me_w M (nt_u (nt_u (nt_u J1 B 15 (nI z1.1)) B 15 (nI (z1.1 + 1))) B 16 (lb_c z1.1 (Int32.ofInt 3))))) rfl k
              rw [if_pos (show (Int32.ofInt 0) = 0 from by decide)] at k
              have k := ly_revb 1 (c' := (114, [(3, .int (Int32.ofInt 0)), (2, .int (nI z1.1)), (1, .int (lb_g f t z1.1)), (0, .ref B)], [.int (Int32.ofInt 0)], me_w M (nt_u (nt_u (nt_u J1 B 15 (nI z1.1)) B 15 (nI (z1.1 + 1))) B 16 (lb_c z1.1 (Int32.ofInt 3))))) rfl k
              have k := lz_ri rfl (by decide) k
              have hcm : lb_cm f t z1.1 (Int32.ofInt 18) := Or.inr (Or.inr (Or.inr (Or.inr (Or.inl ⟨h34, fun c => absurd c.1 (by omega), rfl⟩))))
              exact ⟨.inl (lb_c z1.1 (Int32.ofInt 3)), _, _, k, ⟨_, hv1, Or.inr ⟨z1, rfl, _, _, ⟨hcm, Or.inr (Or.inl ⟨by decide, hm, rfl⟩)⟩, Or.inl ⟨_, rfl, rfl⟩⟩⟩, (lb_c_ne (by omega) (by decide) (by decide)), rfl, _, _, _, hS6, (show z1.1 + 1 ≤ t from hlt)⟩
            · subst e1
              have hS6 := md_Sm (y := z1.2.1 + 1) hP hN1 (by omega)
              have k : nt_rn X _ 161 (110, [(3, .int (Int32.ofInt 0)), (2, .int (nI z1.1)), (1, .int (lb_g f t z1.1)), (0, .ref B)], [.int (Int32.ofInt 1)], me_w M (nt_u (nt_u (nt_u J1 B 15 (nI z1.1)) B 15 (nI (z1.1 + 1))) B 19 (nI (z1.2.1 + 1)))) _ := k
              have k := ly_revb 1 (c' := (if (Int32.ofInt 1) = 0 then 113 else 115, [(3, .int (Int32.ofInt 0)), (2, .int (nI z1.1)), (1, .int (lb_g f t z1.1)), (0, .ref B)], [], me_w M (nt_u (nt_u (nt_u J1 B 15 (nI z1.1)) B 15 (nI (z1.1 + 1))) B 19 (nI (z1.2.1 + 1))))) rfl k
              rw [if_neg (show ¬ ((Int32.ofInt 1) = 0) from by decide)] at k
              have k := ly_revb 3 (c' := (if (lb_g f t z1.1) = (Int32.ofInt 60) then 121 else 133, [(3, .int (Int32.ofInt 0)), (2, .int (nI z1.1)), (1, .int (lb_g f t z1.1)), (0, .ref B)], [], me_w M (nt_u (nt_u (nt_u J1 B 15 (nI z1.1)) B 15 (nI (z1.1 + 1))) B 19 (nI (z1.2.1 + 1))))) rfl k
              rw [if_neg (show ¬ ((lb_g f t z1.1) = (Int32.ofInt 60)) from h22)] at k
              have k := ly_revb 3 (c' := (if (lb_g f t z1.1) = (Int32.ofInt 61) then 139 else 143, [(3, .int (Int32.ofInt 0)), (2, .int (nI z1.1)), (1, .int (lb_g f t z1.1)), (0, .ref B)], [], me_w M (nt_u (nt_u (nt_u J1 B 15 (nI z1.1)) B 15 (nI (z1.1 + 1))) B 19 (nI (z1.2.1 + 1))))) rfl k
              rw [if_neg (show ¬ ((lb_g f t z1.1) = (Int32.ofInt 61)) from h28)] at k
              have k := ly_revb 2 (c' := (if (Int32.ofInt 0) = 0 then 151 else 147, [(3, .int (Int32.ofInt 0)), (2, .int (nI z1.1)), (1, .int (lb_g f t z1.1)), (0, .ref B)], [], me_w M (nt_u (nt_u (nt_u J1 B 15 (nI z1.1)) B 15 (nI (z1.1 + 1))) B 19 (nI (z1.2.1 + 1))))) rfl k
              rw [if_pos (show (Int32.ofInt 0) = 0 from by decide)] at k
              have k := ly_revb 3 (c' := (155, [(4, .int (Int32.ofInt 4)), (3, .int (Int32.ofInt 0)), (2, .int (nI z1.1)), (1, .int (lb_g f t z1.1)), (0, .ref B)], [.ref B], me_w M (nt_u (nt_u (nt_u J1 B 15 (nI z1.1)) B 15 (nI (z1.1 + 1))) B 19 (nI (z1.2.1 + 1))))) rfl k
              obtain ⟨d1, o1, ed, kc, k⟩ := lz_c (g := 151) (q := 1) (vs := [.ref B]) (rest := []) rfl rfl (by decide) (Or.inr (Or.inl ⟨_, rfl, rfl⟩)) rfl k
              obtain ⟨r2, a2, J2, e1, hv2, hQ2⟩ := md_sum (s0 := z1.2.2.1) hP hB hS6 (show z1.1 + 1 ≤ t from hlt) kc
              subst e1
              rcases r2 with c | z2
              · obtain ⟨hc, rfl, q2, m2, e2, hT2, hq2⟩ := hQ2
                have k : nt_rn X _ 161 (158, [(4, .int (Int32.ofInt 4)), (3, .int (Int32.ofInt 0)), (2, .int (nI z1.1)), (1, .int (lb_g f t z1.1)), (0, .ref B)], [.int (Int32.ofInt 0)], me_w M J2) _ := k
                have k := ly_revb 1 (c' := (if (Int32.ofInt 0) = 0 then 161 else 163, [(4, .int (Int32.ofInt 4)), (3, .int (Int32.ofInt 0)), (2, .int (nI z1.1)), (1, .int (lb_g f t z1.1)), (0, .ref B)], [], me_w M J2)) rfl k
                rw [if_pos (show (Int32.ofInt 0) = 0 from by decide)] at k
                have k := ly_revb 1 (c' := (162, [(4, .int (Int32.ofInt 4)), (3, .int (Int32.ofInt 0)), (2, .int (nI z1.1)), (1, .int (lb_g f t z1.1)), (0, .ref B)], [.int (Int32.ofInt 0)], me_w M J2)) rfl k
                have k := lz_ri rfl (by decide) k
                have hcm : lb_cm f t z1.1 (Int32.ofInt 18) := Or.inr (Or.inr (Or.inr (Or.inr (Or.inl ⟨h34, fun c => absurd c.1 (by omega), rfl⟩))))
                have hcl : lb_cl (Int32.ofInt 18) = 1 := by decide
                have hv3 : lb_sum f t (lb_s f t (z1.1 + lb_cl (Int32.ofInt 18)), z1.2.1 + 1, z1.2.2) (.inl c) := by rw [hcl]; exact hv2
                exact ⟨.inl c, _, _, k, ⟨_, hv1, Or.inr ⟨z1, rfl, _, _, ⟨hcm, Or.inr (Or.inr ⟨by decide, hm, rfl⟩)⟩, Or.inr ⟨_, rfl, _, hv3, Or.inl ⟨c, rfl, rfl⟩⟩⟩⟩, hc, rfl, _, _, _, hT2, hq2⟩
              · obtain ⟨rfl, q2, hz2, hq2, hT2⟩ := hQ2
                have k : nt_rn X _ 161 (158, [(4, .int (Int32.ofInt 4)), (3, .int (Int32.ofInt 0)), (2, .int (nI z1.1)), (1, .int (lb_g f t z1.1)), (0, .ref B)], [.int (Int32.ofInt 1)], me_w M J2) _ := k
                have k := ly_revb 1 (c' := (if (Int32.ofInt 1) = 0 then 161 else 163, [(4, .int (Int32.ofInt 4)), (3, .int (Int32.ofInt 0)), (2, .int (nI z1.1)), (1, .int (lb_g f t z1.1)), (0, .ref B)], [], me_w M J2)) rfl k
                rw [if_neg (show ¬ ((Int32.ofInt 1) = 0) from by decide)] at k
                have k := ly_revb 5 (c' := (170, [(4, .int (Int32.ofInt 4)), (3, .int (Int32.ofInt 0)), (2, .int (nI z1.1)), (1, .int (lb_g f t z1.1)), (0, .ref B)], [.int (Int32.ofInt 0), .int ((Int32.ofInt 6) + (Int32.ofInt 4)), .ref B], me_w M J2)) rfl k
                obtain ⟨d1, o1, ed, kc, k⟩ := lz_c (g := 155) (q := 1) (vs := [.ref B, .int ((Int32.ofInt 6) + (Int32.ofInt 4)), .int (Int32.ofInt 0)]) (rest := []) rfl rfl (by decide) (Or.inr (Or.inl ⟨_, rfl, rfl⟩)) rfl k
                obtain ⟨hb, e1⟩ := md_puts hP hT2 hq2 kc
                subst e1
                have hU2 := md_Se (y := ((Int32.ofInt 6) + (Int32.ofInt 4)) + Int32.ofInt 16 * (Int32.ofInt 0)) hP hT2 hb
                have k : nt_rn X _ 161 (173, [(4, .int (Int32.ofInt 4)), (3, .int (Int32.ofInt 0)), (2, .int (nI z1.1)), (1, .int (lb_g f t z1.1)), (0, .ref B)], [], me_w M (nt_u (nt_u J2 Sg (400 * x + z2.2.2.2.1) (((Int32.ofInt 6) + (Int32.ofInt 4)) + Int32.ofInt 16 * (Int32.ofInt 0))) Ln x (nI (z2.2.2.2.1 + 1)))) _ := k
                have k := ly_revb 1 (c' := (174, [(4, .int (Int32.ofInt 4)), (3, .int (Int32.ofInt 0)), (2, .int (nI z1.1)), (1, .int (lb_g f t z1.1)), (0, .ref B)], [.int (Int32.ofInt 1)], me_w M (nt_u (nt_u J2 Sg (400 * x + z2.2.2.2.1) (((Int32.ofInt 6) + (Int32.ofInt 4)) + Int32.ofInt 16 * (Int32.ofInt 0))) Ln x (nI (z2.2.2.2.1 + 1))))) rfl k
                have k := lz_ri rfl (by decide) k
                have hcm : lb_cm f t z1.1 (Int32.ofInt 18) := Or.inr (Or.inr (Or.inr (Or.inr (Or.inl ⟨h34, fun c => absurd c.1 (by omega), rfl⟩))))
                have hcl : lb_cl (Int32.ofInt 18) = 1 := by decide
                have hv3 : lb_sum f t (lb_s f t (z1.1 + lb_cl (Int32.ofInt 18)), z1.2.1 + 1, z1.2.2) (.inr z2) := by rw [hcl]; exact hv2
                rw [show ((Int32.ofInt 6) + (Int32.ofInt 4)) + Int32.ofInt 16 * (Int32.ofInt 0) = Int32.ofInt 18 - Int32.ofInt 8 from by decide] at hU2
                rw [show ((Int32.ofInt 6) + (Int32.ofInt 4)) + Int32.ofInt 16 * (Int32.ofInt 0) = Int32.ofInt 18 - Int32.ofInt 8 from by decide] at k
                exact ⟨.inr (z2.1, z2.2.1, lb_em z2.2.2 (Int32.ofInt 18) (Int32.ofInt 18 - Int32.ofInt 8)), _, _, k, ⟨_, hv1, Or.inr ⟨z1, rfl, _, _, ⟨hcm, Or.inr (Or.inr ⟨by decide, hm, rfl⟩)⟩, Or.inr ⟨_, rfl, _, hv3, Or.inr ⟨z2, rfl, rfl⟩⟩⟩⟩, rfl, _, hz2, hq2, hU2⟩
          · rw [if_neg (show ¬ ((nI t) ≤ (nI (z1.1 + 1))) from show ¬ nI t ≤ nI ((z1.1 + 1)) from nI_ge (Nat.not_le.mp h68) (by omega))] at k
            have k := ly_revb 1 (c' := (72, [(2, .int (nI z1.1)), (1, .int (lb_g f t z1.1)), (0, .ref B)], [.ref B], me_w M (nt_u (nt_u J1 B 15 (nI z1.1)) B 15 (nI (z1.1 + 1))))) rfl k
            have k := lz_get (a := B) (g := 1100) (M := me_w M (nt_u (nt_u J1 B 15 (nI z1.1)) B 15 (nI (z1.1 + 1)))) (v := .ref Tb) rfl (nt_gfR rfl hP.1.1) k
            have k := ly_revb 1 (c' := (76, [(2, .int (nI z1.1)), (1, .int (lb_g f t z1.1)), (0, .ref B)], [.ref B, .ref Tb], me_w M (nt_u (nt_u J1 B 15 (nI z1.1)) B 15 (nI (z1.1 + 1))))) rfl k
            have k := lz_get (a := B) (g := 1115) (M := me_w M (nt_u (nt_u J1 B 15 (nI z1.1)) B 15 (nI (z1.1 + 1)))) (v := .int (nI (z1.1 + 1))) rfl (congrArg Value.int (hN1.1)) k
            have k := me_bald (q := (z1.1 + 1)) (v := f ((z1.1 + 1))) rfl (rfl) (by omega) (md_f hP hN1 ((z1.1 + 1))) k
            have k := ly_revb 2 (c' := (if (f ((z1.1 + 1))) = (Int32.ofInt 61) then 85 else 89, [(2, .int (nI z1.1)), (1, .int (lb_g f t z1.1)), (0, .ref B)], [], me_w M (nt_u (nt_u J1 B 15 (nI z1.1)) B 15 (nI (z1.1 + 1))))) rfl k
            by_cases h82 : f (z1.1 + 1) = Int32.ofInt 61
            · rw [if_pos (show (f ((z1.1 + 1))) = (Int32.ofInt 61) from h82)] at k
              have k := ly_revb 5 (c' := (if (Int32.ofInt 1) = 0 then 105 else 95, [(3, .int (Int32.ofInt 1)), (2, .int (nI z1.1)), (1, .int (lb_g f t z1.1)), (0, .ref B)], [], me_w M (nt_u (nt_u J1 B 15 (nI z1.1)) B 15 (nI (z1.1 + 1))))) rfl k
              rw [if_neg (show ¬ ((Int32.ofInt 1) = 0) from by decide)] at k
              have k := ly_revb 2 (c' := (97, [(3, .int (Int32.ofInt 1)), (2, .int (nI z1.1)), (1, .int (lb_g f t z1.1)), (0, .ref B)], [.ref B, .ref B], me_w M (nt_u (nt_u J1 B 15 (nI z1.1)) B 15 (nI (z1.1 + 1))))) rfl k
              have k := lz_get (a := B) (g := 1115) (M := me_w M (nt_u (nt_u J1 B 15 (nI z1.1)) B 15 (nI (z1.1 + 1)))) (v := .int (nI (z1.1 + 1))) rfl (congrArg Value.int (hN1.1)) k
              have k := ly_revb 2 (c' := (102, [(3, .int (Int32.ofInt 1)), (2, .int (nI z1.1)), (1, .int (lb_g f t z1.1)), (0, .ref B)], [.int ((nI (z1.1 + 1)) + (Int32.ofInt 1)), .ref B], me_w M (nt_u (nt_u J1 B 15 (nI z1.1)) B 15 (nI (z1.1 + 1))))) rfl k
              rw [show ((nI (z1.1 + 1)) + (Int32.ofInt 1) : Int32) = nI ((z1.1 + 1) + 1) from me_add (k := 1)] at k
              have k := me_put rfl (by decide) k
              have k : nt_rn X _ 161 (105, [(3, .int (Int32.ofInt 1)), (2, .int (nI z1.1)), (1, .int (lb_g f t z1.1)), (0, .ref B)], [], me_w M (nt_u (nt_u (nt_u J1 B 15 (nI z1.1)) B 15 (nI (z1.1 + 1))) B 15 (nI ((z1.1 + 1) + 1)))) _ := k
              have hN2 := md_Sq (y := z1.1 + 2) hP hN1
              have k := ly_revb 2 (c' := (107, [(3, .int (Int32.ofInt 1)), (2, .int (nI z1.1)), (1, .int (lb_g f t z1.1)), (0, .ref B)], [.int (nI z1.1), .ref B], me_w M (nt_u (nt_u (nt_u J1 B 15 (nI z1.1)) B 15 (nI (z1.1 + 1))) B 15 (nI ((z1.1 + 1) + 1))))) rfl k
              obtain ⟨d1, o1, ed, kc, k⟩ := lz_c (g := 154) (q := 1) (vs := [.ref B, .int (nI z1.1)]) (rest := []) rfl rfl (by decide) (Or.inr (Or.inl ⟨_, rfl, rfl⟩)) rfl k
              rcases md_makes (a := z1.1) hP hN2 (show z1.1 + 2 ≤ t by omega) rfl kc with ⟨hm, e1⟩ | ⟨hm, e1⟩
              · subst e1
                have hS6 := md_Sw (y := lb_c z1.1 (Int32.ofInt 3)) hP hN2
                have k : nt_rn X _ 161 (110, [(3, .int (Int32.ofInt 1)), (2, .int (nI z1.1)), (1, .int (lb_g f t z1.1)), (0, .ref B)], [.int (Int32.ofInt 0)], me_w M (nt_u (nt_u (nt_u (nt_u J1 B 15 (nI z1.1)) B 15 (nI (z1.1 + 1))) B 15 (nI ((z1.1 + 1) + 1))) B 16 (lb_c z1.1 (Int32.ofInt 3)))) _ := k
                have k := ly_revb 1 (c' := (if (Int32.ofInt 0) = 0 then 113 else 115, [(3, .int (Int32.ofInt 1)), (2, .int (nI z1.1)), (1, .int (lb_g f t z1.1)), (0, .ref B)], [], me_w M (nt_u (nt_u (nt_u (nt_u J1 B 15 (nI z1.1)) B 15 (nI (z1.1 + 1))) B 15 (nI ((z1.1 + 1) + 1))) B 16 (lb_c z1.1 (Int32.ofInt 3))))) rfl k
                rw [if_pos (show (Int32.ofInt 0) = 0 from by decide)] at k
                have k := ly_revb 1 (c' := (114, [(3, .int (Int32.ofInt 1)), (2, .int (nI z1.1)), (1, .int (lb_g f t z1.1)), (0, .ref B)], [.int (Int32.ofInt 0)], me_w M (nt_u (nt_u (nt_u (nt_u J1 B 15 (nI z1.1)) B 15 (nI (z1.1 + 1))) B 15 (nI ((z1.1 + 1) + 1))) B 16 (lb_c z1.1 (Int32.ofInt 3))))) rfl k
                have k := lz_ri rfl (by decide) k
                have hcm : lb_cm f t z1.1 (Int32.ofInt 17) := Or.inr (Or.inr (Or.inr (Or.inl ⟨h34, ⟨by omega, h82⟩, rfl⟩)))
                exact ⟨.inl (lb_c z1.1 (Int32.ofInt 3)), _, _, k, ⟨_, hv1, Or.inr ⟨z1, rfl, _, _, ⟨hcm, Or.inr (Or.inl ⟨by decide, hm, rfl⟩)⟩, Or.inl ⟨_, rfl, rfl⟩⟩⟩, (lb_c_ne (by omega) (by decide) (by decide)), rfl, _, _, _, hS6, (show z1.1 + 2 ≤ t by omega)⟩
              · subst e1
                have hS6 := md_Sm (y := z1.2.1 + 1) hP hN2 (by omega)
                have k : nt_rn X _ 161 (110, [(3, .int (Int32.ofInt 1)), (2, .int (nI z1.1)), (1, .int (lb_g f t z1.1)), (0, .ref B)], [.int (Int32.ofInt 1)], me_w M (nt_u (nt_u (nt_u (nt_u J1 B 15 (nI z1.1)) B 15 (nI (z1.1 + 1))) B 15 (nI ((z1.1 + 1) + 1))) B 19 (nI (z1.2.1 + 1)))) _ := k
                have k := ly_revb 1 (c' := (if (Int32.ofInt 1) = 0 then 113 else 115, [(3, .int (Int32.ofInt 1)), (2, .int (nI z1.1)), (1, .int (lb_g f t z1.1)), (0, .ref B)], [], me_w M (nt_u (nt_u (nt_u (nt_u J1 B 15 (nI z1.1)) B 15 (nI (z1.1 + 1))) B 15 (nI ((z1.1 + 1) + 1))) B 19 (nI (z1.2.1 + 1))))) rfl k
                rw [if_neg (show ¬ ((Int32.ofInt 1) = 0) from by decide)] at k
                have k := ly_revb 3 (c' := (if (lb_g f t z1.1) = (Int32.ofInt 60) then 121 else 133, [(3, .int (Int32.ofInt 1)), (2, .int (nI z1.1)), (1, .int (lb_g f t z1.1)), (0, .ref B)], [], me_w M (nt_u (nt_u (nt_u (nt_u J1 B 15 (nI z1.1)) B 15 (nI (z1.1 + 1))) B 15 (nI ((z1.1 + 1) + 1))) B 19 (nI (z1.2.1 + 1))))) rfl k
                rw [if_neg (show ¬ ((lb_g f t z1.1) = (Int32.ofInt 60)) from h22)] at k
                have k := ly_revb 3 (c' := (if (lb_g f t z1.1) = (Int32.ofInt 61) then 139 else 143, [(3, .int (Int32.ofInt 1)), (2, .int (nI z1.1)), (1, .int (lb_g f t z1.1)), (0, .ref B)], [], me_w M (nt_u (nt_u (nt_u (nt_u J1 B 15 (nI z1.1)) B 15 (nI (z1.1 + 1))) B 15 (nI ((z1.1 + 1) + 1))) B 19 (nI (z1.2.1 + 1))))) rfl k
                rw [if_neg (show ¬ ((lb_g f t z1.1) = (Int32.ofInt 61)) from h28)] at k
                have k := ly_revb 2 (c' := (if (Int32.ofInt 1) = 0 then 151 else 147, [(3, .int (Int32.ofInt 1)), (2, .int (nI z1.1)), (1, .int (lb_g f t z1.1)), (0, .ref B)], [], me_w M (nt_u (nt_u (nt_u (nt_u J1 B 15 (nI z1.1)) B 15 (nI (z1.1 + 1))) B 15 (nI ((z1.1 + 1) + 1))) B 19 (nI (z1.2.1 + 1))))) rfl k
                rw [if_neg (show ¬ ((Int32.ofInt 1) = 0) from by decide)] at k
                have k := ly_revb 4 (c' := (155, [(4, .int (Int32.ofInt 3)), (3, .int (Int32.ofInt 1)), (2, .int (nI z1.1)), (1, .int (lb_g f t z1.1)), (0, .ref B)], [.ref B], me_w M (nt_u (nt_u (nt_u (nt_u J1 B 15 (nI z1.1)) B 15 (nI (z1.1 + 1))) B 15 (nI ((z1.1 + 1) + 1))) B 19 (nI (z1.2.1 + 1))))) rfl k
                obtain ⟨d1, o1, ed, kc, k⟩ := lz_c (g := 151) (q := 1) (vs := [.ref B]) (rest := []) rfl rfl (by decide) (Or.inr (Or.inl ⟨_, rfl, rfl⟩)) rfl k
                obtain ⟨r2, a2, J2, e1, hv2, hQ2⟩ := md_sum (s0 := z1.2.2.1) hP hB hS6 (show z1.1 + 2 ≤ t by omega) kc
                subst e1
                rcases r2 with c | z2
                · obtain ⟨hc, rfl, q2, m2, e2, hT2, hq2⟩ := hQ2
                  have k : nt_rn X _ 161 (158, [(4, .int (Int32.ofInt 3)), (3, .int (Int32.ofInt 1)), (2, .int (nI z1.1)), (1, .int (lb_g f t z1.1)), (0, .ref B)], [.int (Int32.ofInt 0)], me_w M J2) _ := k
                  have k := ly_revb 1 (c' := (if (Int32.ofInt 0) = 0 then 161 else 163, [(4, .int (Int32.ofInt 3)), (3, .int (Int32.ofInt 1)), (2, .int (nI z1.1)), (1, .int (lb_g f t z1.1)), (0, .ref B)], [], me_w M J2)) rfl k
                  rw [if_pos (show (Int32.ofInt 0) = 0 from by decide)] at k
                  have k := ly_revb 1 (c' := (162, [(4, .int (Int32.ofInt 3)), (3, .int (Int32.ofInt 1)), (2, .int (nI z1.1)), (1, .int (lb_g f t z1.1)), (0, .ref B)], [.int (Int32.ofInt 0)], me_w M J2)) rfl k
                  have k := lz_ri rfl (by decide) k
                  have hcm : lb_cm f t z1.1 (Int32.ofInt 17) := Or.inr (Or.inr (Or.inr (Or.inl ⟨h34, ⟨by omega, h82⟩, rfl⟩)))
                  have hcl : lb_cl (Int32.ofInt 17) = 2 := by decide
                  have hv3 : lb_sum f t (lb_s f t (z1.1 + lb_cl (Int32.ofInt 17)), z1.2.1 + 1, z1.2.2) (.inl c) := by rw [hcl]; exact hv2
                  exact ⟨.inl c, _, _, k, ⟨_, hv1, Or.inr ⟨z1, rfl, _, _, ⟨hcm, Or.inr (Or.inr ⟨by decide, hm, rfl⟩)⟩, Or.inr ⟨_, rfl, _, hv3, Or.inl ⟨c, rfl, rfl⟩⟩⟩⟩, hc, rfl, _, _, _, hT2, hq2⟩
                · obtain ⟨rfl, q2, hz2, hq2, hT2⟩ := hQ2
                  have k : nt_rn X _ 161 (158, [(4, .int (Int32.ofInt 3)), (3, .int (Int32.ofInt 1)), (2, .int (nI z1.1)), (1, .int (lb_g f t z1.1)), (0, .ref B)], [.int (Int32.ofInt 1)], me_w M J2) _ := k
                  have k := ly_revb 1 (c' := (if (Int32.ofInt 1) = 0 then 161 else 163, [(4, .int (Int32.ofInt 3)), (3, .int (Int32.ofInt 1)), (2, .int (nI z1.1)), (1, .int (lb_g f t z1.1)), (0, .ref B)], [], me_w M J2)) rfl k
                  rw [if_neg (show ¬ ((Int32.ofInt 1) = 0) from by decide)] at k
                  have k := ly_revb 5 (c' := (170, [(4, .int (Int32.ofInt 3)), (3, .int (Int32.ofInt 1)), (2, .int (nI z1.1)), (1, .int (lb_g f t z1.1)), (0, .ref B)], [.int (Int32.ofInt 0), .int ((Int32.ofInt 6) + (Int32.ofInt 3)), .ref B], me_w M J2)) rfl k
                  obtain ⟨d1, o1, ed, kc, k⟩ := lz_c (g := 155) (q := 1) (vs := [.ref B, .int ((Int32.ofInt 6) + (Int32.ofInt 3)), .int (Int32.ofInt 0)]) (rest := []) rfl rfl (by decide) (Or.inr (Or.inl ⟨_, rfl, rfl⟩)) rfl k
                  obtain ⟨hb, e1⟩ := md_puts hP hT2 hq2 kc
                  subst e1
                  have hU2 := md_Se (y := ((Int32.ofInt 6) + (Int32.ofInt 3)) + Int32.ofInt 16 * (Int32.ofInt 0)) hP hT2 hb
                  have k : nt_rn X _ 161 (173, [(4, .int (Int32.ofInt 3)), (3, .int (Int32.ofInt 1)), (2, .int (nI z1.1)), (1, .int (lb_g f t z1.1)), (0, .ref B)], [], me_w M (nt_u (nt_u J2 Sg (400 * x + z2.2.2.2.1) (((Int32.ofInt 6) + (Int32.ofInt 3)) + Int32.ofInt 16 * (Int32.ofInt 0))) Ln x (nI (z2.2.2.2.1 + 1)))) _ := k
                  have k := ly_revb 1 (c' := (174, [(4, .int (Int32.ofInt 3)), (3, .int (Int32.ofInt 1)), (2, .int (nI z1.1)), (1, .int (lb_g f t z1.1)), (0, .ref B)], [.int (Int32.ofInt 1)], me_w M (nt_u (nt_u J2 Sg (400 * x + z2.2.2.2.1) (((Int32.ofInt 6) + (Int32.ofInt 3)) + Int32.ofInt 16 * (Int32.ofInt 0))) Ln x (nI (z2.2.2.2.1 + 1))))) rfl k
                  have k := lz_ri rfl (by decide) k
                  have hcm : lb_cm f t z1.1 (Int32.ofInt 17) := Or.inr (Or.inr (Or.inr (Or.inl ⟨h34, ⟨by omega, h82⟩, rfl⟩)))
                  have hcl : lb_cl (Int32.ofInt 17) = 2 := by decide
                  have hv3 : lb_sum f t (lb_s f t (z1.1 + lb_cl (Int32.ofInt 17)), z1.2.1 + 1, z1.2.2) (.inr z2) := by rw [hcl]; exact hv2
                  rw [show ((Int32.ofInt 6) + (Int32.ofInt 3)) + Int32.ofInt 16 * (Int32.ofInt 0) = Int32.ofInt 17 - Int32.ofInt 8 from by decide] at hU2
                  rw [show ((Int32.ofInt 6) + (Int32.ofInt 3)) + Int32.ofInt 16 * (Int32.ofInt 0) = Int32.ofInt 17 - Int32.ofInt 8 from by decide] at k
                  exact ⟨.inr (z2.1, z2.2.1, lb_em z2.2.2 (Int32.ofInt 17) (Int32.ofInt 17 - Int32.ofInt 8)), _, _, k, ⟨_, hv1, Or.inr ⟨z1, rfl, _, _, ⟨hcm, Or.inr (Or.inr ⟨by decide, hm, rfl⟩)⟩, Or.inr ⟨_, rfl, _, hv3, Or.inr ⟨z2, rfl, rfl⟩⟩⟩⟩, rfl, _, hz2, hq2, hU2⟩
            · rw [if_neg (show ¬ ((f ((z1.1 + 1))) = (Int32.ofInt 61)) from h82)] at k
              have k := ly_revb 4 (c' := (if (Int32.ofInt 0) = 0 then 105 else 95, [(3, .int (Int32.ofInt 0)), (2, .int (nI z1.1)), (1, .int (lb_g f t z1.1)), (0, .ref B)], [], me_w M (nt_u (nt_u J1 B 15 (nI z1.1)) B 15 (nI (z1.1 + 1))))) rfl k
              rw [if_pos (show (Int32.ofInt 0) = 0 from by decide)] at k
              have k := ly_revb 2 (c' := (107, [(3, .int (Int32.ofInt 0)), (2, .int (nI z1.1)), (1, .int (lb_g f t z1.1)), (0, .ref B)], [.int (nI z1.1), .ref B], me_w M (nt_u (nt_u J1 B 15 (nI z1.1)) B 15 (nI (z1.1 + 1))))) rfl k
              obtain ⟨d1, o1, ed, kc, k⟩ := lz_c (g := 154) (q := 1) (vs := [.ref B, .int (nI z1.1)]) (rest := []) rfl rfl (by decide) (Or.inr (Or.inl ⟨_, rfl, rfl⟩)) rfl k
              rcases md_makes (a := z1.1) hP hN1 (show z1.1 + 1 ≤ t from hlt) rfl kc with ⟨hm, e1⟩ | ⟨hm, e1⟩
              · subst e1
                have hS6 := md_Sw (y := lb_c z1.1 (Int32.ofInt 3)) hP hN1
                have k : nt_rn X _ 161 (110, [(3, .int (Int32.ofInt 0)), (2, .int (nI z1.1)), (1, .int (lb_g f t z1.1)), (0, .ref B)], [.int (Int32.ofInt 0)], me_w M (nt_u (nt_u (nt_u J1 B 15 (nI z1.1)) B 15 (nI (z1.1 + 1))) B 16 (lb_c z1.1 (Int32.ofInt 3)))) _ := k
                have k := ly_revb 1 (c' := (if (Int32.ofInt 0) = 0 then 113 else 115, [(3, .int (Int32.ofInt 0)), (2, .int (nI z1.1)), (1, .int (lb_g f t z1.1)), (0, .ref B)], [], me_w M (nt_u (nt_u (nt_u J1 B 15 (nI z1.1)) B 15 (nI (z1.1 + 1))) B 16 (lb_c z1.1 (Int32.ofInt 3))))) rfl k
                rw [if_pos (show (Int32.ofInt 0) = 0 from by decide)] at k
                have k := ly_revb 1 (c' := (114, [(3, .int (Int32.ofInt 0)), (2, .int (nI z1.1)), (1, .int (lb_g f t z1.1)), (0, .ref B)], [.int (Int32.ofInt 0)], me_w M (nt_u (nt_u (nt_u J1 B 15 (nI z1.1)) B 15 (nI (z1.1 + 1))) B 16 (lb_c z1.1 (Int32.ofInt 3))))) rfl k
                have k := lz_ri rfl (by decide) k
                have hcm : lb_cm f t z1.1 (Int32.ofInt 18) := Or.inr (Or.inr (Or.inr (Or.inr (Or.inl ⟨h34, fun c => h82 c.2, rfl⟩))))
                exact ⟨.inl (lb_c z1.1 (Int32.ofInt 3)), _, _, k, ⟨_, hv1, Or.inr ⟨z1, rfl, _, _, ⟨hcm, Or.inr (Or.inl ⟨by decide, hm, rfl⟩)⟩, Or.inl ⟨_, rfl, rfl⟩⟩⟩, (lb_c_ne (by omega) (by decide) (by decide)), rfl, _, _, _, hS6, (show z1.1 + 1 ≤ t from hlt)⟩
              · subst e1
                have hS6 := md_Sm (y := z1.2.1 + 1) hP hN1 (by omega)
                have k : nt_rn X _ 161 (110, [(3, .int (Int32.ofInt 0)), (2, .int (nI z1.1)), (1, .int (lb_g f t z1.1)), (0, .ref B)], [.int (Int32.ofInt 1)], me_w M (nt_u (nt_u (nt_u J1 B 15 (nI z1.1)) B 15 (nI (z1.1 + 1))) B 19 (nI (z1.2.1 + 1)))) _ := k
                have k := ly_revb 1 (c' := (if (Int32.ofInt 1) = 0 then 113 else 115, [(3, .int (Int32.ofInt 0)), (2, .int (nI z1.1)), (1, .int (lb_g f t z1.1)), (0, .ref B)], [], me_w M (nt_u (nt_u (nt_u J1 B 15 (nI z1.1)) B 15 (nI (z1.1 + 1))) B 19 (nI (z1.2.1 + 1))))) rfl k
                rw [if_neg (show ¬ ((Int32.ofInt 1) = 0) from by decide)] at k
                have k := ly_revb 3 (c' := (if (lb_g f t z1.1) = (Int32.ofInt 60) then 121 else 133, [(3, .int (Int32.ofInt 0)), (2, .int (nI z1.1)), (1, .int (lb_g f t z1.1)), (0, .ref B)], [], me_w M (nt_u (nt_u (nt_u J1 B 15 (nI z1.1)) B 15 (nI (z1.1 + 1))) B 19 (nI (z1.2.1 + 1))))) rfl k
                rw [if_neg (show ¬ ((lb_g f t z1.1) = (Int32.ofInt 60)) from h22)] at k
                have k := ly_revb 3 (c' := (if (lb_g f t z1.1) = (Int32.ofInt 61) then 139 else 143, [(3, .int (Int32.ofInt 0)), (2, .int (nI z1.1)), (1, .int (lb_g f t z1.1)), (0, .ref B)], [], me_w M (nt_u (nt_u (nt_u J1 B 15 (nI z1.1)) B 15 (nI (z1.1 + 1))) B 19 (nI (z1.2.1 + 1))))) rfl k
                rw [if_neg (show ¬ ((lb_g f t z1.1) = (Int32.ofInt 61)) from h28)] at k
                have k := ly_revb 2 (c' := (if (Int32.ofInt 0) = 0 then 151 else 147, [(3, .int (Int32.ofInt 0)), (2, .int (nI z1.1)), (1, .int (lb_g f t z1.1)), (0, .ref B)], [], me_w M (nt_u (nt_u (nt_u J1 B 15 (nI z1.1)) B 15 (nI (z1.1 + 1))) B 19 (nI (z1.2.1 + 1))))) rfl k
                rw [if_pos (show (Int32.ofInt 0) = 0 from by decide)] at k
                have k := ly_revb 3 (c' := (155, [(4, .int (Int32.ofInt 4)), (3, .int (Int32.ofInt 0)), (2, .int (nI z1.1)), (1, .int (lb_g f t z1.1)), (0, .ref B)], [.ref B], me_w M (nt_u (nt_u (nt_u J1 B 15 (nI z1.1)) B 15 (nI (z1.1 + 1))) B 19 (nI (z1.2.1 + 1))))) rfl k
                obtain ⟨d1, o1, ed, kc, k⟩ := lz_c (g := 151) (q := 1) (vs := [.ref B]) (rest := []) rfl rfl (by decide) (Or.inr (Or.inl ⟨_, rfl, rfl⟩)) rfl k
                obtain ⟨r2, a2, J2, e1, hv2, hQ2⟩ := md_sum (s0 := z1.2.2.1) hP hB hS6 (show z1.1 + 1 ≤ t from hlt) kc
                subst e1
                rcases r2 with c | z2
                · obtain ⟨hc, rfl, q2, m2, e2, hT2, hq2⟩ := hQ2
                  have k : nt_rn X _ 161 (158, [(4, .int (Int32.ofInt 4)), (3, .int (Int32.ofInt 0)), (2, .int (nI z1.1)), (1, .int (lb_g f t z1.1)), (0, .ref B)], [.int (Int32.ofInt 0)], me_w M J2) _ := k
                  have k := ly_revb 1 (c' := (if (Int32.ofInt 0) = 0 then 161 else 163, [(4, .int (Int32.ofInt 4)), (3, .int (Int32.ofInt 0)), (2, .int (nI z1.1)), (1, .int (lb_g f t z1.1)), (0, .ref B)], [], me_w M J2)) rfl k
                  rw [if_pos (show (Int32.ofInt 0) = 0 from by decide)] at k
                  have k := ly_revb 1 (c' := (162, [(4, .int (Int32.ofInt 4)), (3, .int (Int32.ofInt 0)), (2, .int (nI z1.1)), (1, .int (lb_g f t z1.1)), (0, .ref B)], [.int (Int32.ofInt 0)], me_w M J2)) rfl k
                  have k := lz_ri rfl (by decide) k
                  have hcm : lb_cm f t z1.1 (Int32.ofInt 18) := Or.inr (Or.inr (Or.inr (Or.inr (Or.inl ⟨h34, fun c => h82 c.2, rfl⟩))))
                  have hcl : lb_cl (Int32.ofInt 18) = 1 := by decide
                  have hv3 : lb_sum f t (lb_s f t (z1.1 + lb_cl (Int32.ofInt 18)), z1.2.1 + 1, z1.2.2) (.inl c) := by rw [hcl]; exact hv2
                  exact ⟨.inl c, _, _, k, ⟨_, hv1, Or.inr ⟨z1, rfl, _, _, ⟨hcm, Or.inr (Or.inr ⟨by decide, hm, rfl⟩)⟩, Or.inr ⟨_, rfl, _, hv3, Or.inl ⟨c, rfl, rfl⟩⟩⟩⟩, hc, rfl, _, _, _, hT2, hq2⟩
                · obtain ⟨rfl, q2, hz2, hq2, hT2⟩ := hQ2
                  have k : nt_rn X _ 161 (158, [(4, .int (Int32.ofInt 4)), (3, .int (Int32.ofInt 0)), (2, .int (nI z1.1)), (1, .int (lb_g f t z1.1)), (0, .ref B)], [.int (Int32.ofInt 1)], me_w M J2) _ := k
                  have k := ly_revb 1 (c' := (if (Int32.ofInt 1) = 0 then 161 else 163, [(4, .int (Int32.ofInt 4)), (3, .int (Int32.ofInt 0)), (2, .int (nI z1.1)), (1, .int (lb_g f t z1.1)), (0, .ref B)], [], me_w M J2)) rfl k
                  rw [if_neg (show ¬ ((Int32.ofInt 1) = 0) from by decide)] at k
                  have k := ly_revb 5 (c' := (170, [(4, .int (Int32.ofInt 4)), (3, .int (Int32.ofInt 0)), (2, .int (nI z1.1)), (1, .int (lb_g f t z1.1)), (0, .ref B)], [.int (Int32.ofInt 0), .int ((Int32.ofInt 6) + (Int32.ofInt 4)), .ref B], me_w M J2)) rfl k
                  obtain ⟨d1, o1, ed, kc, k⟩ := lz_c (g := 155) (q := 1) (vs := [.ref B, .int ((Int32.ofInt 6) + (Int32.ofInt 4)), .int (Int32.ofInt 0)]) (rest := []) rfl rfl (by decide) (Or.inr (Or.inl ⟨_, rfl, rfl⟩)) rfl k
                  obtain ⟨hb, e1⟩ := md_puts hP hT2 hq2 kc
                  subst e1
                  have hU2 := md_Se (y := ((Int32.ofInt 6) + (Int32.ofInt 4)) + Int32.ofInt 16 * (Int32.ofInt 0)) hP hT2 hb
                  have k : nt_rn X _ 161 (173, [(4, .int (Int32.ofInt 4)), (3, .int (Int32.ofInt 0)), (2, .int (nI z1.1)), (1, .int (lb_g f t z1.1)), (0, .ref B)], [], me_w M (nt_u (nt_u J2 Sg (400 * x + z2.2.2.2.1) (((Int32.ofInt 6) + (Int32.ofInt 4)) + Int32.ofInt 16 * (Int32.ofInt 0))) Ln x (nI (z2.2.2.2.1 + 1)))) _ := k
                  have k := ly_revb 1 (c' := (174, [(4, .int (Int32.ofInt 4)), (3, .int (Int32.ofInt 0)), (2, .int (nI z1.1)), (1, .int (lb_g f t z1.1)), (0, .ref B)], [.int (Int32.ofInt 1)], me_w M (nt_u (nt_u J2 Sg (400 * x + z2.2.2.2.1) (((Int32.ofInt 6) + (Int32.ofInt 4)) + Int32.ofInt 16 * (Int32.ofInt 0))) Ln x (nI (z2.2.2.2.1 + 1))))) rfl k
                  have k := lz_ri rfl (by decide) k
                  have hcm : lb_cm f t z1.1 (Int32.ofInt 18) := Or.inr (Or.inr (Or.inr (Or.inr (Or.inl ⟨h34, fun c => h82 c.2, rfl⟩))))
                  have hcl : lb_cl (Int32.ofInt 18) = 1 := by decide
                  have hv3 : lb_sum f t (lb_s f t (z1.1 + lb_cl (Int32.ofInt 18)), z1.2.1 + 1, z1.2.2) (.inr z2) := by rw [hcl]; exact hv2
                  rw [show ((Int32.ofInt 6) + (Int32.ofInt 4)) + Int32.ofInt 16 * (Int32.ofInt 0) = Int32.ofInt 18 - Int32.ofInt 8 from by decide] at hU2
                  rw [show ((Int32.ofInt 6) + (Int32.ofInt 4)) + Int32.ofInt 16 * (Int32.ofInt 0) = Int32.ofInt 18 - Int32.ofInt 8 from by decide] at k
                  exact ⟨.inr (z2.1, z2.2.1, lb_em z2.2.2 (Int32.ofInt 18) (Int32.ofInt 18 - Int32.ofInt 8)), _, _, k, ⟨_, hv1, Or.inr ⟨z1, rfl, _, _, ⟨hcm, Or.inr (Or.inr ⟨by decide, hm, rfl⟩)⟩, Or.inr ⟨_, rfl, _, hv3, Or.inr ⟨z2, rfl, rfl⟩⟩⟩⟩, rfl, _, hz2, hq2, hU2⟩
        · rw [if_neg (show ¬ ((lb_g f t z1.1) = (Int32.ofInt 62)) from h34)] at k
          have k := ly_revb 3 (c' := (40, [(2, .int (nI z1.1)), (1, .int (lb_g f t z1.1)), (0, .ref B)], [.int (nI z1.1), .int (Int32.ofInt 0), .ref B], me_w M (nt_u J1 B 15 (nI z1.1)))) rfl k
          obtain ⟨d1, o1, ed, kc, k⟩ := lz_c (g := 139) (q := 1) (vs := [.ref B, .int (Int32.ofInt 0), .int (nI z1.1)]) (rest := []) rfl rfl (by decide) (Or.inr (Or.inl ⟨_, rfl, rfl⟩)) rfl k
          obtain ⟨hf, e1⟩ := (md_fails (a := z1.1) hP hS2 hp2 kc).resolve_right (fun c => c.1 rfl)
          subst e1
          have hS9 := md_Sw (y := lb_c z1.1 (Int32.ofInt 0)) hP hS2
          have k : nt_rn X _ 161 (43, [(2, .int (nI z1.1)), (1, .int (lb_g f t z1.1)), (0, .ref B)], [.int (Int32.ofInt 0)], me_w M (nt_u (nt_u J1 B 15 (nI z1.1)) B 16 (lb_c z1.1 (Int32.ofInt 0)))) _ := k
          have k := lz_ri rfl (by decide) k
          have hcm : lb_cm f t z1.1 (Int32.ofInt (-1)) := Or.inr (Or.inr (Or.inr (Or.inr (Or.inr ⟨⟨h22, h28, h34⟩, rfl⟩))))
          exact ⟨.inl (lb_c z1.1 (Int32.ofInt 0)), _, _, k, ⟨_, hv1, Or.inr ⟨z1, rfl, _, _, ⟨hcm, Or.inl ⟨rfl, rfl⟩⟩, Or.inl ⟨_, rfl, rfl⟩⟩⟩, (lb_c_ne (by omega) (by decide) (by decide)), rfl, _, _, _, hS9, hp2⟩
end
section
/-! the stack of the other side -/
def lb_stk (g : Nat → Int32) : List Int32 → Prop
  | [] => True
  | s :: S => g S.length = s ∧ lb_stk g S
theorem lb_stk_eq {g h : Nat → Int32} : ∀ (S : List Int32), (∀ j, j < S.length → h j = g j) → lb_stk g S → lb_stk h S := by
  intro S
  induction S with
  | nil => intro _ _; exact trivial
  | cons s S ih =>
    intro hj hs
    exact ⟨(hj S.length (by show S.length < S.length + 1; omega)).trans hs.1, ih (fun j hj2 => hj j (by show j < S.length + 1; omega)) hs.2⟩
theorem lb_stk_mem {g : Nat → Int32} {c : Int32} : ∀ (S : List Int32), lb_stk g S → (c ∈ S ↔ ∃ j, j < S.length ∧ g j = c) := by
  intro S
  induction S with
  | nil => intro _; exact ⟨fun h => (by cases h), fun ⟨j, h, _⟩ => absurd h (Nat.not_lt_zero _)⟩
  | cons s S ih =>
    intro hs
    constructor
    · intro h
      rcases List.mem_cons.mp h with h | h
      · exact ⟨S.length, by show S.length < S.length + 1; omega, hs.1.trans h.symm⟩
      · obtain ⟨j, a, b⟩ := (ih hs.2).mp h
        exact ⟨j, by show j < S.length + 1; omega, b⟩
    · intro ⟨j, a, b⟩
      have a : j < S.length + 1 := a
      by_cases c2 : j = S.length
      · rw [c2, hs.1] at b
        exact List.mem_cons.mpr (Or.inl b.symm)
      · exact List.mem_cons.mpr (Or.inr ((ih hs.2).mpr ⟨j, by omega, b⟩))
def md_O (M : nt_M) (B Tb Sg Ln Op : Nat) : Prop := nt_R M B 22 = some Op ∧ (Op ≠ B ∧ Op ≠ Tb ∧ Op ≠ Sg ∧ Op ≠ Ln) ∧ nt_l M Op = 400 ∧ Op ≠ nt_sp
def md_T (J0 : Nat → Nat → Int32) (B Sg Ln Op x q : Nat) (wr : Int32) (m : Nat) (e : Nat × (Nat → Int32)) (dd : Int32) (S : List Int32) (J : Nat → Nat → Int32) : Prop := md_S J B Sg Ln x q wr m e J ∧ ((∀ i, i ≠ 15 → i ≠ 16 → i ≠ 17 → i ≠ 19 → i ≠ 20 → i ≠ 23 → J B i = J0 B i) ∧ (∀ a, a ≠ B → a ≠ Sg → a ≠ Ln → a ≠ Op → J a = J0 a)) ∧ J B 20 = dd ∧ J B 23 = nI S.length ∧ lb_stk (J Op) S ∧ S.length ≤ 400
theorem md_Sself {J0 J : Nat → Nat → Int32} {x B Sg Ln q m : Nat} {wr : Int32} {e : Nat × (Nat → Int32)} (hS : md_S J0 B Sg Ln x q wr m e J) : md_S J B Sg Ln x q wr m e J := by
  obtain ⟨a1, a2, a3, a4, a5, a6, a7, a8⟩ := hS
  exact ⟨a1, a2, a3, a4, a5, fun _ _ _ _ _ => rfl, fun _ _ _ _ => rfl, a8⟩
theorem md_TP {M : nt_M} {J0 J : Nat → Nat → Int32} {f : Nat → Int32} {t x B Tb Sg Ln Op q m : Nat} {wr dd : Int32} {e : Nat × (Nat → Int32)} {S : List Int32} (hP : md_P M J0 f t x B Tb Sg Ln) (hO : md_O M B Tb Sg Ln Op) (hT : md_T J0 B Sg Ln Op x q wr m e dd S J) : md_P M J f t x B Tb Sg Ln := by
  obtain ⟨p1, p2, p3, p4, p5, p6⟩ := hP
  obtain ⟨_, ⟨fB, fA⟩, _⟩ := hT
  refine ⟨p1, p2, (fB 1 (by decide) (by decide) (by decide) (by decide) (by decide) (by decide)).trans p3, (fB 18 (by decide) (by decide) (by decide) (by decide) (by decide) (by decide)).trans p4, fun j => ?_, p6⟩
  rw [fA Tb p2.1 p2.2.1 p2.2.2.1 (Ne.symm hO.2.1.2.1)]
  exact p5 j
theorem md_Tup {M : nt_M} {J0 J : Nat → Nat → Int32} {f : Nat → Int32} {t x B Tb Sg Ln Op q m : Nat} {wr dd : Int32} {e : Nat × (Nat → Int32)} {S : List Int32} (hP : md_P M J0 f t x B Tb Sg Ln) (hO : md_O M B Tb Sg Ln Op) (hT : md_T J0 B Sg Ln Op x q wr m e dd S J) {J' : Nat → Nat → Int32} {q' m' : Nat} {wr' : Int32} {e' : Nat × (Nat → Int32)} (hS : md_S J B Sg Ln x q' wr' m' e' J') : md_T J0 B Sg Ln Op x q' wr' m' e' dd S J' := by
  obtain ⟨h1, ⟨fB, fA⟩, t1, t2, t3, t4⟩ := hT
  have b1 := hS.2.2.2.2.2.1
  have b2 := hS.2.2.2.2.2.2.1
  exact ⟨md_Sself hS, ⟨fun i q1 q2 q3 q4 q5 q6 => (b1 i q1 q2 q3 q4).trans (fB i q1 q2 q3 q4 q5 q6), fun a q1 q2 q3 q4 => (b2 a q1 q2 q3).trans (fA a q1 q2 q3 q4)⟩, (b1 20 (by decide) (by decide) (by decide) (by decide)).trans t1, (b1 23 (by decide) (by decide) (by decide) (by decide)).trans t2, lb_stk_eq S (fun j _ => by rw [b2 Op hO.2.1.1 hO.2.1.2.2.1 hO.2.1.2.2.2]) t3, t4⟩
theorem md_Td {M : nt_M} {J0 J : Nat → Nat → Int32} {f : Nat → Int32} {t x B Tb Sg Ln Op q m : Nat} {wr dd : Int32} {e : Nat × (Nat → Int32)} {S : List Int32} {y : Int32} (hP : md_P M J0 f t x B Tb Sg Ln) (hO : md_O M B Tb Sg Ln Op) (hT : md_T J0 B Sg Ln Op x q wr m e dd S J) : md_T J0 B Sg Ln Op x q wr m e y S (nt_u J B 20 y) := by
  obtain ⟨⟨a1, a2, a3, a4, a5, a6, a7, a8⟩, ⟨fB, fA⟩, t1, t2, t3, t4⟩ := hT
  have n1 := hP.2.1.2.2.2.1
  have n2 := hP.2.1.2.2.2.2.1
  have n3 := hP.2.1.2.2.2.2.2
  have o1 := hO.2.1.1
  have o2 := hO.2.1.2.2.1
  have o3 := hO.2.1.2.2.2
  exact ⟨⟨(me_uk (by decide)).trans a1, (me_uk (by decide)).trans a2, (me_uk (by decide)).trans a3, (me_uj (Ne.symm n2)).trans a4, fun j hj => (me_uj (Ne.symm n1)).trans (a5 j hj), fun _ _ _ _ _ => rfl, fun _ _ _ _ => rfl, a8⟩, ⟨fun i q1 q2 q3 q4 q5 q6 => (me_uk q5).trans (fB i q1 q2 q3 q4 q5 q6), fun a q1 q2 q3 q4 => (me_uo q1).trans (fA a q1 q2 q3 q4)⟩, me_us, (me_uk (by decide)).trans t2, lb_stk_eq S (fun j _ => me_uj o1) t3, t4⟩
theorem md_Tn {M : nt_M} {J0 J : Nat → Nat → Int32} {f : Nat → Int32} {t x B Tb Sg Ln Op q m : Nat} {wr dd : Int32} {e : Nat × (Nat → Int32)} {S : List Int32} {S' : List Int32} (hP : md_P M J0 f t x B Tb Sg Ln) (hO : md_O M B Tb Sg Ln Op) (hT : md_T J0 B Sg Ln Op x q wr m e dd S J) (hl : S'.length ≤ 400) (hs : lb_stk (J Op) S') : md_T J0 B Sg Ln Op x q wr m e dd S' (nt_u J B 23 (nI S'.length)) := by
  obtain ⟨⟨a1, a2, a3, a4, a5, a6, a7, a8⟩, ⟨fB, fA⟩, t1, t2, t3, t4⟩ := hT
  have n1 := hP.2.1.2.2.2.1
  have n2 := hP.2.1.2.2.2.2.1
  have n3 := hP.2.1.2.2.2.2.2
  have o1 := hO.2.1.1
  have o2 := hO.2.1.2.2.1
  have o3 := hO.2.1.2.2.2
  exact ⟨⟨(me_uk (by decide)).trans a1, (me_uk (by decide)).trans a2, (me_uk (by decide)).trans a3, (me_uj (Ne.symm n2)).trans a4, fun j hj => (me_uj (Ne.symm n1)).trans (a5 j hj), fun _ _ _ _ _ => rfl, fun _ _ _ _ => rfl, a8⟩, ⟨fun i q1 q2 q3 q4 q5 q6 => (me_uk q6).trans (fB i q1 q2 q3 q4 q5 q6), fun a q1 q2 q3 q4 => (me_uo q1).trans (fA a q1 q2 q3 q4)⟩, (me_uk (by decide)).trans t1, me_us, lb_stk_eq S' (fun j _ => me_uj o1) hs, hl⟩
theorem md_Tpop {M : nt_M} {J0 J : Nat → Nat → Int32} {f : Nat → Int32} {t x B Tb Sg Ln Op q m : Nat} {wr dd : Int32} {e : Nat × (Nat → Int32)} {S : List Int32} {s : Int32} (hP : md_P M J0 f t x B Tb Sg Ln) (hO : md_O M B Tb Sg Ln Op) (hT : md_T J0 B Sg Ln Op x q wr m e dd (s :: S) J) : md_T J0 B Sg Ln Op x q wr m e dd S (nt_u J B 23 (nI S.length)) := md_Tn hP hO hT (by have := hT.2.2.2.2.2; have : S.length + 1 ≤ 400 := this; omega) hT.2.2.2.2.1.2
theorem md_Tpush {M : nt_M} {J0 J : Nat → Nat → Int32} {f : Nat → Int32} {t x B Tb Sg Ln Op q m : Nat} {wr dd : Int32} {e : Nat × (Nat → Int32)} {S : List Int32} {y : Int32} (hP : md_P M J0 f t x B Tb Sg Ln) (hO : md_O M B Tb Sg Ln Op) (hT : md_T J0 B Sg Ln Op x q wr m e dd S J) (hl : S.length < 400) : md_T J0 B Sg Ln Op x q wr m e dd (y :: S) (nt_u (nt_u J Op S.length y) B 23 (nI (S.length + 1))) := by
  have hT2 : md_T J0 B Sg Ln Op x q wr m e dd S (nt_u J Op S.length y) := by
    obtain ⟨⟨a1, a2, a3, a4, a5, a6, a7, a8⟩, ⟨fB, fA⟩, t1, t2, t3, t4⟩ := hT
    have n1 := hP.2.1.2.2.2.1
    have n2 := hP.2.1.2.2.2.2.1
    have n3 := hP.2.1.2.2.2.2.2
    have o1 := hO.2.1.1
    have o2 := hO.2.1.2.2.1
    have o3 := hO.2.1.2.2.2
    exact ⟨⟨(me_uj (Ne.symm o1)).trans a1, (me_uj (Ne.symm o1)).trans a2, (me_uj (Ne.symm o1)).trans a3, (me_uj (Ne.symm o3)).trans a4, fun j hj => (me_uj (Ne.symm o2)).trans (a5 j hj), fun _ _ _ _ _ => rfl, fun _ _ _ _ => rfl, a8⟩, ⟨fun i q1 q2 q3 q4 q5 q6 => (me_uj (Ne.symm o1)).trans (fB i q1 q2 q3 q4 q5 q6), fun a q1 q2 q3 q4 => (me_uo q4).trans (fA a q1 q2 q3 q4)⟩, (me_uj (Ne.symm o1)).trans t1, (me_uj (Ne.symm o1)).trans t2, lb_stk_eq S (fun j hj => me_uk (by omega)) t3, t4⟩
  exact md_Tn (S' := y :: S) hP hO hT2 (by show S.length + 1 ≤ 400; omega) ⟨me_us, hT2.2.2.2.2.1⟩
theorem me_p0 {s : Int32} : s + Int32.ofInt 16 * Int32.ofInt 0 = s := by
  rw [show Int32.ofInt 16 * Int32.ofInt 0 = 0 from by decide, Int32.add_zero]
theorem md_opens {X : nt_X} {d t x B Tb Sg Ln Op q m : Nat} {f : Nat → Int32} {M : nt_M} {J0 J : Nat → Nat → Int32} {o : Option Value × nt_M} {dd : Int32} {e : Nat × (Nat → Int32)} {S : List Int32} {y : Int32} (hP : md_P M J0 f t x B Tb Sg Ln) (hO : md_O M B Tb Sg Ln Op) (hT : md_T J0 B Sg Ln Op x q 0 m e dd S J) (hp : q ≤ t) (k : nt_ev X d 160 [.ref B, .int (y)] (me_w M J) o) : (dd = Int32.ofInt 10 ∧ ∃ J', o = (some (.int (Int32.ofInt 0)), me_w M J') ∧ md_T J0 B Sg Ln Op x q (lb_c q (Int32.ofInt 2)) m e dd S J') ∨ (¬ dd = Int32.ofInt 10 ∧ ∃ J', o = (some (.int (Int32.ofInt 1)), me_w M J') ∧ md_T J0 B Sg Ln Op x q 0 m e (dd + Int32.ofInt 1) (y :: S) J') := by
  have k : nt_rn X d 160 (0, [(0, .ref B), (1, .int (y))], [], me_w M J) o := k
  have t4 : t ≤ 400 := hP.2.2.2.2.2.1
  have s4 : S.length ≤ 400 := hT.2.2.2.2.2
  have k := ly_revb 1 (c' := (1, [(0, .ref B), (1, .int (y))], [.ref B], me_w M J)) rfl k
  have k := lz_get (a := B) (g := 1120) (M := me_w M J) (v := .int (dd)) rfl (congrArg Value.int (hT.2.2.1)) k
  have k := ly_revb 2 (c' := (if dd = (Int32.ofInt 10) then 9 else 19, [(0, .ref B), (1, .int (y))], [], me_w M J)) rfl k
  by_cases h6 : dd = Int32.ofInt 10
  · rw [if_pos (show dd = (Int32.ofInt 10) from h6)] at k
    have k := ly_revb 3 (c' := (12, [(0, .ref B), (1, .int (y))], [.ref B, .int (Int32.ofInt 2), .ref B], me_w M J)) rfl k
    have k := lz_get (a := B) (g := 1115) (M := me_w M J) (v := .int (nI q)) rfl (congrArg Value.int (hT.1.1)) k
    obtain ⟨d1, o1, ed, kc, k⟩ := lz_c (g := 139) (q := 1) (vs := [.ref B, .int (Int32.ofInt 2), .int (nI q)]) (rest := []) rfl rfl (by decide) (Or.inr (Or.inl ⟨_, rfl, rfl⟩)) rfl k
    obtain ⟨hf, e1⟩ := (md_fails (a := q) (md_TP hP hO hT) hT.1 hp kc).resolve_right (fun c => c.1 rfl)
    subst e1
    have hS9 := md_Tup hP hO hT (md_Sw (y := lb_c q (Int32.ofInt 2)) (md_TP hP hO hT) hT.1)
    have k : nt_rn X _ 160 (18, [(0, .ref B), (1, .int (y))], [.int (Int32.ofInt 0)], me_w M (nt_u J B 16 (lb_c q (Int32.ofInt 2)))) _ := k
    have k := lz_ri rfl (by decide) k
    exact Or.inl ⟨h6, _, k, hS9⟩
  · rw [if_neg (show ¬ (dd = (Int32.ofInt 10)) from h6)] at k
    have k := ly_revb 2 (c' := (21, [(0, .ref B), (1, .int (y))], [.ref B, .ref B], me_w M J)) rfl k
    have k := lz_get (a := B) (g := 1120) (M := me_w M J) (v := .int (dd)) rfl (congrArg Value.int (hT.2.2.1)) k
    have k := ly_revb 2 (c' := (26, [(0, .ref B), (1, .int (y))], [.int (dd + (Int32.ofInt 1)), .ref B], me_w M J)) rfl k
    have k := me_put rfl (by decide) k
    have k : nt_rn X _ 160 (29, [(0, .ref B), (1, .int (y))], [], me_w M (nt_u J B 20 (dd + (Int32.ofInt 1)))) _ := k
    have hT2 := md_Td (y := dd + Int32.ofInt 1) hP hO hT
    have k := ly_revb 1 (c' := (30, [(0, .ref B), (1, .int (y))], [.ref B], me_w M (nt_u J B 20 (dd + (Int32.ofInt 1))))) rfl k
    have k := lz_get (a := B) (g := 1122) (M := me_w M (nt_u J B 20 (dd + (Int32.ofInt 1)))) (v := .ref Op) rfl (nt_gfR rfl hO.1) k
    have k := ly_revb 1 (c' := (34, [(0, .ref B), (1, .int (y))], [.ref B, .ref Op], me_w M (nt_u J B 20 (dd + (Int32.ofInt 1))))) rfl k
    have k := lz_get (a := B) (g := 1123) (M := me_w M (nt_u J B 20 (dd + (Int32.ofInt 1)))) (v := .int (nI S.length)) rfl (congrArg Value.int (hT2.2.2.2.1)) k
    have k := ly_revb 1 (c' := (38, [(0, .ref B), (1, .int (y))], [.int (y), .int (nI S.length), .ref Op], me_w M (nt_u J B 20 (dd + (Int32.ofInt 1))))) rfl k
    have hb : S.length < nt_l M Op := me_iastb (q := S.length) rfl rfl (by omega) k
    rw [hO.2.2.1] at hb
    have k := me_iast (q := S.length) rfl (rfl) (by omega) k
    have k := ly_revb 2 (c' := (41, [(0, .ref B), (1, .int (y))], [.ref B, .ref B], me_w M (nt_u (nt_u J B 20 (dd + (Int32.ofInt 1))) Op S.length (y)))) rfl k
    have k := lz_get (a := B) (g := 1123) (M := me_w M (nt_u (nt_u J B 20 (dd + (Int32.ofInt 1))) Op S.length (y))) (v := .int (nI S.length)) rfl (congrArg Value.int ((me_uj (Ne.symm (hO.2.1.1))).trans (hT2.2.2.2.1))) k
    have k := ly_revb 2 (c' := (46, [(0, .ref B), (1, .int (y))], [.int ((nI S.length) + (Int32.ofInt 1)), .ref B], me_w M (nt_u (nt_u J B 20 (dd + (Int32.ofInt 1))) Op S.length (y)))) rfl k
    rw [show ((nI S.length) + (Int32.ofInt 1) : Int32) = nI (S.length + 1) from me_add (k := 1)] at k
    have k := me_put rfl (by decide) k
    have k : nt_rn X _ 160 (49, [(0, .ref B), (1, .int (y))], [], me_w M (nt_u (nt_u (nt_u J B 20 (dd + (Int32.ofInt 1))) Op S.length (y)) B 23 (nI (S.length + 1)))) _ := k
    have k := ly_revb 1 (c' := (50, [(0, .ref B), (1, .int (y))], [.int (Int32.ofInt 1)], me_w M (nt_u (nt_u (nt_u J B 20 (dd + (Int32.ofInt 1))) Op S.length (y)) B 23 (nI (S.length + 1))))) rfl k
    have k := lz_ri rfl (by decide) k
    exact Or.inr ⟨h6, _, k, md_Tpush hP hO hT2 hb⟩
theorem md_strength {X : nt_X} {d : Nat} {s : Int32} {M : nt_M} {J : Nat → Nat → Int32} {o : Option Value × nt_M} (k : nt_ev X d 164 [.int s] (me_w M J) o) : o = (some (.int (nI (lb_sg s))), me_w M J) := by
  have k : nt_rn X d 164 (0, [(0, .int s)], [], me_w M J) o := k
  have k := ly_revb 3 (c' := (if s = (Int32.ofInt 13) then 6 else 10, [(0, .int (s))], [], me_w M J)) rfl k
  by_cases h3 : s = (Int32.ofInt 13)
  · rw [if_pos (show s = (Int32.ofInt 13) from h3)] at k
    have k := ly_revb 2 (c' := (31, [(0, .int (s))], [.int (Int32.ofInt 1)], me_w M J)) rfl k
    have k := lz_ri rfl (by decide) k
    have e2 : lb_sg s = 1 := by
      unfold lb_sg
      rw [if_pos h3]
    rw [k, e2]
    rfl
  · rw [if_neg (show ¬ (s = (Int32.ofInt 13)) from h3)] at k
    have k := ly_revb 3 (c' := (if s = (Int32.ofInt 12) then 16 else 20, [(0, .int (s))], [], me_w M J)) rfl k
    by_cases h13 : s = (Int32.ofInt 12)
    · rw [if_pos (show s = (Int32.ofInt 12) from h13)] at k
      have k := ly_revb 2 (c' := (31, [(0, .int (s))], [.int (Int32.ofInt 2)], me_w M J)) rfl k
      have k := lz_ri rfl (by decide) k
      have e2 : lb_sg s = 2 := by
        unfold lb_sg
        rw [if_neg h3, if_pos h13]
      rw [k, e2]
      rfl
    · rw [if_neg (show ¬ (s = (Int32.ofInt 12)) from h13)] at k
      have k := ly_revb 3 (c' := (if s = (Int32.ofInt 11) then 26 else 30, [(0, .int (s))], [], me_w M J)) rfl k
      by_cases h23 : s = (Int32.ofInt 11)
      · rw [if_pos (show s = (Int32.ofInt 11) from h23)] at k
        have k := ly_revb 2 (c' := (31, [(0, .int (s))], [.int (Int32.ofInt 3)], me_w M J)) rfl k
        have k := lz_ri rfl (by decide) k
        have e2 : lb_sg s = 3 := by
          unfold lb_sg
          rw [if_neg h3, if_neg h13, if_pos h23]
        rw [k, e2]
        rfl
      · rw [if_neg (show ¬ (s = (Int32.ofInt 11)) from h23)] at k
        have k := ly_revb 1 (c' := (31, [(0, .int (s))], [.int (Int32.ofInt 0)], me_w M J)) rfl k
        have k := lz_ri rfl (by decide) k
        have e2 : lb_sg s = 0 := by
          unfold lb_sg
          rw [if_neg h3, if_neg h13, if_neg h23]
        rw [k, e2]
        rfl
theorem lb_sg_le {s : Int32} : lb_sg s ≤ 3 := by
  unfold lb_sg
  by_cases h1 : s = Int32.ofInt 13
  · rw [if_pos h1]; decide
  rw [if_neg h1]
  by_cases h2 : s = Int32.ofInt 12
  · rw [if_pos h2]; decide
  rw [if_neg h2]
  by_cases h3 : s = Int32.ofInt 11
  · rw [if_pos h3]; decide
  rw [if_neg h3]
  decide
theorem md_settles {X : nt_X} {d t x B Tb Sg Ln Op q m l : Nat} {f : Nat → Int32} {M : nt_M} {J0 : Nat → Nat → Int32} {o : Option Value × nt_M} {wr : Int32} (hP : md_P M J0 f t x B Tb Sg Ln) (hO : md_O M B Tb Sg Ln Op) (hl : l ≤ 3) (hp : q ≤ t) : ∀ (S : List Int32) (dd : Int32) (e : lb_E) (J : Nat → Nat → Int32), md_T J0 B Sg Ln Op x q wr m e.2 dd S J → nt_ev X d 163 [.ref B, .int (nI l)] (me_w M J) o → ∃ J', o = (none, me_w M J') ∧ md_T J0 B Sg Ln Op x q wr m (lb_st l S dd e).2.2.2 (lb_st l S dd e).1 (lb_st l S dd e).2.1 J' := by
  intro S
  induction S with
  | nil =>
    intro dd e J hT k
    have k : nt_rn X d 163 (0, [(0, .ref B), (1, .int (nI l))], [], me_w M J) o := k
    have t4 : t ≤ 400 := hP.2.2.2.2.2.1
    have k := ly_revb 1 (c' := (1, [(0, .ref B), (1, .int (nI l))], [.ref B], me_w M J)) rfl k
    have k := lz_get (a := B) (g := 1123) (M := me_w M J) (v := .int (nI 0)) rfl (congrArg Value.int (hT.2.2.2.1)) k
    have k := ly_revb 1 (c' := (if (nI 0) ≤ 0 then 76 else 7, [(0, .ref B), (1, .int (nI l))], [], me_w M J)) rfl k
    rw [if_pos (show (nI 0) ≤ 0 from by decide)] at k
    have k := lz_rv rfl rfl k
    exact ⟨J, k, hT⟩
  | cons s S ih =>
    intro dd e J hT k
    have s4 : S.length + 1 ≤ 400 := hT.2.2.2.2.2
    have sr := lb_sg_le (s := s)
    have k : nt_rn X d 163 (0, [(0, .ref B), (1, .int (nI l))], [], me_w M J) o := k
    have t4 : t ≤ 400 := hP.2.2.2.2.2.1
    have k := ly_revb 1 (c' := (1, [(0, .ref B), (1, .int (nI l))], [.ref B], me_w M J)) rfl k
    have k := lz_get (a := B) (g := 1123) (M := me_w M J) (v := .int (nI (S.length + 1))) rfl (congrArg Value.int (hT.2.2.2.1)) k
    have k := ly_revb 1 (c' := (if (nI (S.length + 1)) ≤ 0 then 76 else 7, [(0, .ref B), (1, .int (nI l))], [], me_w M J)) rfl k
    rw [if_neg (show ¬ ((nI (S.length + 1)) ≤ 0) from nI_nle (by omega) (by omega))] at k
    have k := ly_revb 1 (c' := (8, [(0, .ref B), (1, .int (nI l))], [.ref B], me_w M J)) rfl k
    have k := lz_get (a := B) (g := 1122) (M := me_w M J) (v := .ref Op) rfl (nt_gfR rfl hO.1) k
    have k := ly_revb 1 (c' := (12, [(0, .ref B), (1, .int (nI l))], [.ref B, .ref Op], me_w M J)) rfl k
    have k := lz_get (a := B) (g := 1123) (M := me_w M J) (v := .int (nI (S.length + 1))) rfl (congrArg Value.int (hT.2.2.2.1)) k
    have k := ly_revb 2 (c' := (17, [(0, .ref B), (1, .int (nI l))], [.int ((nI (S.length + 1)) - (Int32.ofInt 1)), .ref Op], me_w M J)) rfl k
    rw [show ((nI (S.length + 1)) - (Int32.ofInt 1) : Int32) = nI S.length from (me_subn (b := 1) (by omega)).trans (congrArg nI (by omega))] at k
    have k := me_iald (q := S.length) (v := s) rfl (hO.2.2.2) (rfl) (by omega) (hT.2.2.2.2.1.1) k
    obtain ⟨d1, o1, ed, kc, k⟩ := lz_c (g := 164) (q := 0) (vs := [.int (s)]) (rest := []) rfl rfl (by decide) (Or.inl ⟨_, rfl, rfl⟩) rfl k
    have e1 := md_strength kc
    subst e1
    have k : nt_rn X _ 163 (21, [(0, .ref B), (1, .int (nI l))], [.int (nI (lb_sg s))], me_w M J) _ := k
    have k := ly_revb 2 (c' := (if (nI (lb_sg s)) < (nI l) then 76 else 25, [(0, .ref B), (1, .int (nI l))], [], me_w M J)) rfl k
    by_cases h22 : lb_sg s < l
    · rw [if_pos (show (nI (lb_sg s)) < (nI l) from nI_lt h22 (by omega))] at k
      have k := lz_rv rfl rfl k
      rw [lb_st_no h22]
      exact ⟨J, k, hT⟩
    · rw [if_neg (show ¬ ((nI (lb_sg s)) < (nI l)) from nI_nlt (Nat.not_lt.mp h22) (by omega))] at k
      have k := ly_revb 2 (c' := (27, [(0, .ref B), (1, .int (nI l))], [.ref B, .ref B], me_w M J)) rfl k
      have k := lz_get (a := B) (g := 1123) (M := me_w M J) (v := .int (nI (S.length + 1))) rfl (congrArg Value.int (hT.2.2.2.1)) k
      have k := ly_revb 2 (c' := (32, [(0, .ref B), (1, .int (nI l))], [.int ((nI (S.length + 1)) - (Int32.ofInt 1)), .ref B], me_w M J)) rfl k
      rw [show ((nI (S.length + 1)) - (Int32.ofInt 1) : Int32) = nI S.length from (me_subn (b := 1) (by omega)).trans (congrArg nI (by omega))] at k
      have k := me_put rfl (by decide) k
      have k : nt_rn X _ 163 (35, [(0, .ref B), (1, .int (nI l))], [], me_w M (nt_u J B 23 (nI S.length))) _ := k
      have hT2 : md_T J0 B Sg Ln Op x q wr m e.2 dd S (nt_u J B 23 (nI S.length)) := md_Tpop hP hO hT
      have k := ly_revb 2 (c' := (37, [(0, .ref B), (1, .int (nI l))], [.ref B, .ref B], me_w M (nt_u J B 23 (nI S.length)))) rfl k
      have k := lz_get (a := B) (g := 1122) (M := me_w M (nt_u J B 23 (nI S.length))) (v := .ref Op) rfl (nt_gfR rfl hO.1) k
      have k := ly_revb 1 (c' := (41, [(0, .ref B), (1, .int (nI l))], [.ref B, .ref Op, .ref B], me_w M (nt_u J B 23 (nI S.length)))) rfl k
      have k := lz_get (a := B) (g := 1123) (M := me_w M (nt_u J B 23 (nI S.length))) (v := .int (nI S.length)) rfl (congrArg Value.int (hT2.2.2.2.1)) k
      have k := me_iald (q := S.length) (v := s) rfl (hO.2.2.2) (rfl) (by omega) ((me_uj hO.2.1.1).trans hT.2.2.2.2.1.1) k
      have k := ly_revb 1 (c' := (46, [(0, .ref B), (1, .int (nI l))], [.int (Int32.ofInt 0), .int (s), .ref B], me_w M (nt_u J B 23 (nI S.length)))) rfl k
      obtain ⟨d1, o1, ed, kc, k⟩ := lz_c (g := 155) (q := 1) (vs := [.ref B, .int (s), .int (Int32.ofInt 0)]) (rest := []) rfl rfl (by decide) (Or.inr (Or.inl ⟨_, rfl, rfl⟩)) rfl k
      obtain ⟨hb, e1⟩ := md_puts (md_TP hP hO hT2) hT2.1 hp kc
      rw [me_p0] at e1
      subst e1
      have hT3 := md_Tup hP hO hT2 (md_Se (y := s) (md_TP hP hO hT2) hT2.1 hb)
      have k : nt_rn X _ 163 (49, [(0, .ref B), (1, .int (nI l))], [], me_w M (nt_u (nt_u (nt_u J B 23 (nI S.length)) Sg (400 * x + e.2.1) s) Ln x (nI (e.2.1 + 1)))) _ := k
      have k := ly_revb 1 (c' := (50, [(0, .ref B), (1, .int (nI l))], [.ref B], me_w M (nt_u (nt_u (nt_u J B 23 (nI S.length)) Sg (400 * x + e.2.1) s) Ln x (nI (e.2.1 + 1))))) rfl k
      have k := lz_get (a := B) (g := 1122) (M := me_w M (nt_u (nt_u (nt_u J B 23 (nI S.length)) Sg (400 * x + e.2.1) s) Ln x (nI (e.2.1 + 1)))) (v := .ref Op) rfl (nt_gfR rfl hO.1) k
      have k := ly_revb 1 (c' := (54, [(0, .ref B), (1, .int (nI l))], [.ref B, .ref Op], me_w M (nt_u (nt_u (nt_u J B 23 (nI S.length)) Sg (400 * x + e.2.1) s) Ln x (nI (e.2.1 + 1))))) rfl k
      have k := lz_get (a := B) (g := 1123) (M := me_w M (nt_u (nt_u (nt_u J B 23 (nI S.length)) Sg (400 * x + e.2.1) s) Ln x (nI (e.2.1 + 1)))) (v := .int (nI S.length)) rfl (congrArg Value.int (hT3.2.2.2.1)) k
      have k := me_iald (q := S.length) (v := s) rfl (hO.2.2.2) (rfl) (by omega) ((me_uj hO.2.1.2.2.2).trans ((me_uj hO.2.1.2.2.1).trans ((me_uj hO.2.1.1).trans hT.2.2.2.2.1.1))) k
      have k := ly_revb 2 (c' := (if s = (Int32.ofInt 11) then 63 else 0, [(0, .ref B), (1, .int (nI l))], [], me_w M (nt_u (nt_u (nt_u J B 23 (nI S.length)) Sg (400 * x + e.2.1) s) Ln x (nI (e.2.1 + 1))))) rfl k
      by_cases h60 : s = Int32.ofInt 11
      · rw [if_pos (show s = (Int32.ofInt 11) from h60)] at k
        have k := ly_revb 2 (c' := (65, [(0, .ref B), (1, .int (nI l))], [.ref B, .ref B], me_w M (nt_u (nt_u (nt_u J B 23 (nI S.length)) Sg (400 * x + e.2.1) s) Ln x (nI (e.2.1 + 1))))) rfl k
        have k := lz_get (a := B) (g := 1120) (M := me_w M (nt_u (nt_u (nt_u J B 23 (nI S.length)) Sg (400 * x + e.2.1) s) Ln x (nI (e.2.1 + 1)))) (v := .int (dd)) rfl (congrArg Value.int (hT3.2.2.1)) k
        have k := ly_revb 2 (c' := (70, [(0, .ref B), (1, .int (nI l))], [.int (dd - (Int32.ofInt 1)), .ref B], me_w M (nt_u (nt_u (nt_u J B 23 (nI S.length)) Sg (400 * x + e.2.1) s) Ln x (nI (e.2.1 + 1))))) rfl k
        have k := me_put rfl (by decide) k
        have k : nt_rn X _ 163 (73, [(0, .ref B), (1, .int (nI l))], [], me_w M (nt_u (nt_u (nt_u (nt_u J B 23 (nI S.length)) Sg (400 * x + e.2.1) s) Ln x (nI (e.2.1 + 1))) B 20 (dd - (Int32.ofInt 1)))) _ := k
        have k := ly_revb 1 (c' := (0, [(0, .ref B), (1, .int (nI l))], [], me_w M (nt_u (nt_u (nt_u (nt_u J B 23 (nI S.length)) Sg (400 * x + e.2.1) s) Ln x (nI (e.2.1 + 1))) B 20 (dd - (Int32.ofInt 1))))) rfl k
        have hT4 := md_Td (y := dd - Int32.ofInt 1) hP hO hT3
        obtain ⟨J', e1, h⟩ := ih _ (lb_em e (lb_tw s) s) _ hT4 k
        have es : lb_st l (s :: S) dd e = lb_st l S (dd - Int32.ofInt 1) (lb_em e (lb_tw s) s) := by
          show (if l ≤ lb_sg s then lb_st l S (if s = Int32.ofInt 11 then dd - Int32.ofInt 1 else dd) (lb_em e (lb_tw s) s) else (dd, s :: S, e)) = _
          rw [if_pos (Nat.not_lt.mp h22), if_pos h60]
        rw [es]
        exact ⟨J', e1, h⟩
      · rw [if_neg (show ¬ (s = (Int32.ofInt 11)) from h60)] at k
        obtain ⟨J', e1, h⟩ := ih _ (lb_em e (lb_tw s) s) _ hT3 k
        have es : lb_st l (s :: S) dd e = lb_st l S dd (lb_em e (lb_tw s) s) := by
          show (if l ≤ lb_sg s then lb_st l S (if s = Int32.ofInt 11 then dd - Int32.ofInt 1 else dd) (lb_em e (lb_tw s) s) else (dd, s :: S, e)) = _
          rw [if_pos (Nat.not_lt.mp h22), if_neg h60]
        rw [es]
        exact ⟨J', e1, h⟩
theorem md_insl {X : nt_X} {d t x B Tb Sg Ln Op q m : Nat} {f : Nat → Int32} {M : nt_M} {J0 J : Nat → Nat → Int32} {o : Option Value × nt_M} {wr dd : Int32} {e : Nat × (Nat → Int32)} {S : List Int32} (hP : md_P M J0 f t x B Tb Sg Ln) (hO : md_O M B Tb Sg Ln Op) (hT : md_T J0 B Sg Ln Op x q wr m e dd S J) : ∀ (c i : Nat), i + c = S.length → (∀ j, j < i → ¬ J Op j = Int32.ofInt 91) → nt_rn X d 165 (2, [(1, .int (nI i)), (0, .ref B)], [], me_w M J) o → ∃ r, o = (some (.int r), me_w M J) ∧ (r = Int32.ofInt 1 ∧ Int32.ofInt 91 ∈ S ∨ r = Int32.ofInt 0 ∧ ¬ Int32.ofInt 91 ∈ S) := by
  have s4 : S.length ≤ 400 := hT.2.2.2.2.2
  have hmem := lb_stk_mem (c := Int32.ofInt 91) S hT.2.2.2.2.1
  intro c
  induction c with
  | zero =>
    intro i hc hj k
    have k := ly_revb 2 (c' := (4, [(1, .int (nI i)), (0, .ref B)], [.ref B, .int (nI i)], me_w M J)) rfl k
    have k := lz_get (a := B) (g := 1123) (M := me_w M J) (v := .int (nI S.length)) rfl (congrArg Value.int (hT.2.2.2.1)) k
    have k := ly_revb 1 (c' := (if (nI S.length) ≤ (nI i) then 29 else 10, [(1, .int (nI i)), (0, .ref B)], [], me_w M J)) rfl k
    rw [if_pos (show (nI S.length) ≤ (nI i) from nI_le (by omega) (by omega))] at k
    have k := ly_revb 1 (c' := (30, [(1, .int (nI i)), (0, .ref B)], [.int (Int32.ofInt 0)], me_w M J)) rfl k
    have k := lz_ri rfl (by decide) k
    refine ⟨_, k, Or.inr ⟨rfl, fun h => ?_⟩⟩
    obtain ⟨j, a, b⟩ := hmem.mp h
    exact hj j (by omega) b
  | succ c ih =>
    intro i hc hj k
    have k := ly_revb 2 (c' := (4, [(1, .int (nI i)), (0, .ref B)], [.ref B, .int (nI i)], me_w M J)) rfl k
    have k := lz_get (a := B) (g := 1123) (M := me_w M J) (v := .int (nI S.length)) rfl (congrArg Value.int (hT.2.2.2.1)) k
    have k := ly_revb 1 (c' := (if (nI S.length) ≤ (nI i) then 29 else 10, [(1, .int (nI i)), (0, .ref B)], [], me_w M J)) rfl k
    rw [if_neg (show ¬ ((nI S.length) ≤ (nI i)) from nI_ge (by omega) (by omega))] at k
    have k := ly_revb 1 (c' := (11, [(1, .int (nI i)), (0, .ref B)], [.ref B], me_w M J)) rfl k
    have k := lz_get (a := B) (g := 1122) (M := me_w M J) (v := .ref Op) rfl (nt_gfR rfl hO.1) k
    have k := ly_revb 1 (c' := (15, [(1, .int (nI i)), (0, .ref B)], [.int (nI i), .ref Op], me_w M J)) rfl k
    have k := me_iald (q := i) (v := J Op i) rfl (hO.2.2.2) (rfl) (by omega) (rfl) k
    have k := ly_revb 2 (c' := (if (J Op i) = (Int32.ofInt 91) then 21 else 23, [(1, .int (nI i)), (0, .ref B)], [], me_w M J)) rfl k
    by_cases h18 : J Op i = Int32.ofInt 91
    · rw [if_pos (show (J Op i) = (Int32.ofInt 91) from h18)] at k
      have k := ly_revb 1 (c' := (22, [(1, .int (nI i)), (0, .ref B)], [.int (Int32.ofInt 1)], me_w M J)) rfl k
      have k := lz_ri rfl (by decide) k
      exact ⟨_, k, Or.inl ⟨rfl, hmem.mpr ⟨i, by omega, h18⟩⟩⟩
    · rw [if_neg (show ¬ ((J Op i) = (Int32.ofInt 91)) from h18)] at k
      have k := ly_revb 1 (c' := (26, [(1, .int ((nI i) + Int32.ofInt 1)), (0, .ref B)], [], me_w M J)) rfl k
      rw [show ((nI i) + Int32.ofInt 1 : Int32) = nI (i + 1) from me_add (k := 1)] at k
      have k := ly_revb 1 (c' := (2, [(1, .int (nI (i + 1))), (0, .ref B)], [], me_w M J)) rfl k
      refine ih (i + 1) (by omega) (fun j hj2 => ?_) k
      by_cases c2 : j = i
      · rw [c2]; exact h18
      · exact hj j (by omega)
theorem md_inside {X : nt_X} {d t x B Tb Sg Ln Op q m : Nat} {f : Nat → Int32} {M : nt_M} {J0 J : Nat → Nat → Int32} {o : Option Value × nt_M} {wr dd : Int32} {e : Nat × (Nat → Int32)} {S : List Int32} (hP : md_P M J0 f t x B Tb Sg Ln) (hO : md_O M B Tb Sg Ln Op) (hT : md_T J0 B Sg Ln Op x q wr m e dd S J) (k : nt_ev X d 165 [.ref B] (me_w M J) o) : ∃ r, o = (some (.int r), me_w M J) ∧ (r = Int32.ofInt 1 ∧ Int32.ofInt 91 ∈ S ∨ r = Int32.ofInt 0 ∧ ¬ Int32.ofInt 91 ∈ S) := by
  have k : nt_rn X d 165 (0, [(0, .ref B)], [], me_w M J) o := k
  have t4 : t ≤ 400 := hP.2.2.2.2.2.1
  have k := ly_revb 2 (c' := (2, [(1, .int (Int32.ofInt 0)), (0, .ref B)], [], me_w M J)) rfl k
  exact md_insl hP hO hT S.length 0 (by omega) (fun j h => absurd h (Nat.not_lt_zero _)) k
end
section
/-! tests, the other side -/
def md_F (J0 : Nat → Nat → Int32) (B Sg Ln Op x t : Nat) (f : Nat → Int32) (z : lb_Z) (dd : Int32) (S : List Int32) (a : Int32) (J : Nat → Nat → Int32) : Prop :=
  (a = Int32.ofInt 0 ∧ ∃ c q' m' e' dd' S', c ≠ 0 ∧ md_T J0 B Sg Ln Op x q' c m' e' dd' S' J ∧ q' ≤ t ∧ ∃ k, lb_ma f t k 0 dd S z (.inl c)) ∨
  (a = Int32.ofInt 1 ∧ ∃ (z1 : lb_Z) (q1 : Nat) (dd1 : Int32) (S1 : List Int32), lb_s f t q1 = z1.1 ∧ q1 ≤ t ∧ z.1 < z1.1 ∧ md_T J0 B Sg Ln Op x q1 0 z1.2.1 z1.2.2.2 dd1 S1 J ∧ ∀ r, (∃ k, lb_ma f t k 1 dd1 S1 z1 r) → ∃ k, lb_ma f t k 0 dd S z r)
theorem md_Fs {J0 J : Nat → Nat → Int32} {B Sg Ln Op x t : Nat} {f : Nat → Int32} {z z' : lb_Z} {dd dd' a : Int32} {S S' : List Int32} (hz : z.1 ≤ z'.1) (hs : ∀ r, (∃ k, lb_ma f t k 0 dd' S' z' r) → ∃ k, lb_ma f t k 0 dd S z r) (h : md_F J0 B Sg Ln Op x t f z' dd' S' a J) : md_F J0 B Sg Ln Op x t f z dd S a J := by
  rcases h with ⟨h, c, q1, m1, e1, d1, S1, h1, h2, h3, h4⟩ | ⟨h, z1, q1, d1, S1, h1, h2, h3, h4, h5⟩
  · exact Or.inl ⟨h, c, q1, m1, e1, d1, S1, h1, h2, h3, hs _ h4⟩
  · exact Or.inr ⟨h, z1, q1, d1, S1, h1, h2, by omega, h4, fun r hr => hs _ (h5 r hr)⟩
def md_QT (J0 : Nat → Nat → Int32) (B Sg Ln Op x t : Nat) (f : Nat → Int32) (r : lb_Y) (a : Int32) (J : Nat → Nat → Int32) : Prop := match r with
  | .inl c => c ≠ 0 ∧ a = Int32.ofInt 0 ∧ ∃ q m e dd S, md_T J0 B Sg Ln Op x q c m e dd S J ∧ q ≤ t
  | .inr z => a = Int32.ofInt 1 ∧ ∃ q dd S, lb_s f t q = z.1 ∧ q ≤ t ∧ md_T J0 B Sg Ln Op x q 0 z.2.1 z.2.2.2 dd S J
theorem lb_st_ne {l : Nat} (hl : 1 ≤ l) : ∀ (S : List Int32) (d : Int32) (e : lb_E), Int32.ofInt 91 ∈ S → ∃ y S', (lb_st l S d e).2.1 = y :: S' := by
  intro S
  induction S with
  | nil => intro d e h; cases h
  | cons s S ih =>
    intro d e h
    by_cases c : l ≤ lb_sg s
    · have es : lb_st l (s :: S) d e = lb_st l S (if s = Int32.ofInt 11 then d - Int32.ofInt 1 else d) (lb_em e (lb_tw s) s) := if_pos c
      rw [es]
      refine ih _ _ ((List.mem_cons.mp h).resolve_left (fun e => ?_))
      rw [← e, show lb_sg (Int32.ofInt 91) = 0 from by decide] at c
      omega
    · rw [lb_st_no (by omega)]
      exact ⟨s, S, rfl⟩
theorem md_T0 {M : nt_M} {J0 J : Nat → Nat → Int32} {f : Nat → Int32} {t x B Tb Sg Ln Op q m : Nat} {wr : Int32} {e : Nat × (Nat → Int32)} (hP : md_P M J0 f t x B Tb Sg Ln) (hO : md_O M B Tb Sg Ln Op) (hS : md_S J0 B Sg Ln x q wr m e J) : md_T J0 B Sg Ln Op x q wr m e (Int32.ofInt 0) [] (nt_u (nt_u J B 23 (Int32.ofInt 0)) B 20 (Int32.ofInt 0)) := by
  obtain ⟨a1, a2, a3, a4, a5, a6, a7, a8⟩ := hS
  have n1 := hP.2.1.2.2.2.1
  have n2 := hP.2.1.2.2.2.2.1
  exact ⟨⟨(me_uk (by decide)).trans ((me_uk (by decide)).trans a1), (me_uk (by decide)).trans ((me_uk (by decide)).trans a2), (me_uk (by decide)).trans ((me_uk (by decide)).trans a3), (me_uj (Ne.symm n2)).trans ((me_uj (Ne.symm n2)).trans a4), fun j hj => (me_uj (Ne.symm n1)).trans ((me_uj (Ne.symm n1)).trans (a5 j hj)), fun _ _ _ _ _ => rfl, fun _ _ _ _ => rfl, a8⟩, ⟨fun i q1 q2 q3 q4 q5 q6 => (me_uk q5).trans ((me_uk q6).trans (a6 i q1 q2 q3 q4)), fun a q1 q2 q3 _ => (me_uo q1).trans ((me_uo q1).trans (a7 a q1 q2 q3))⟩, me_us, (me_uk (by decide)).trans me_us, trivial, Nat.zero_le _⟩
theorem md_factl {X : nt_X} {d t x B Tb Sg Ln Op m : Nat} {f : Nat → Int32} {M : nt_M} {J0 : Nat → Nat → Int32} {o : Option Value × nt_M} {s0 e : Nat × (Nat → Int32)} (hP : md_P M J0 f t x B Tb Sg Ln) (hO : md_O M B Tb Sg Ln Op) (hB : lb_by f t) : ∀ (c q : Nat) (dd : Int32) (S : List Int32) (J : Nat → Nat → Int32) (c9 : Int32), t - lb_s f t q < c → md_T J0 B Sg Ln Op x q 0 m e dd S J → q ≤ t → nt_rn X d 159 (2, [(1, .int (Int32.ofInt 1)), (2, .int c9), (0, .ref B)], [], me_w M J) o → ∃ a J', o = (some (.int a), me_w M J') ∧ md_F J0 B Sg Ln Op x t f (lb_s f t q, m, (s0, e)) dd S a J' := by
  have t4 : t ≤ 400 := hP.2.2.2.2.2.1
  intro cc
  induction cc with
  | zero => intro q dd S J c9 hc; omega
  | succ cc ih =>
    intro q dd S J c9 hcc hT hp k
    have hss : lb_s f t (lb_s f t q) = lb_s f t q := lb_ss hp
    have k := ly_revb 2 (c' := (if (Int32.ofInt 1) = 0 then 75 else 6, [(1, .int (Int32.ofInt 1)), (2, .int (c9)), (0, .ref B)], [], me_w M J)) rfl k
    rw [if_neg (show ¬ ((Int32.ofInt 1) = 0) from by decide)] at k
    have k := ly_revb 3 (c' := (9, [(1, .int (Int32.ofInt 0)), (2, .int (c9)), (0, .ref B)], [.ref B], me_w M J)) rfl k
    obtain ⟨d1, o1, ed, kc, k⟩ := lz_c (g := 136) (q := 1) (vs := [.ref B]) (rest := []) rfl rfl (by decide) (Or.inr (Or.inl ⟨_, rfl, rfl⟩)) rfl k
    have e1 := md_see (md_TP hP hO hT) hT.1 hp kc
    subst e1
    have hT1 := md_Tup hP hO hT (md_Sq (y := lb_s f t q) (md_TP hP hO hT) hT.1)
    have k : nt_rn X _ 159 (12, [(1, .int (Int32.ofInt 0)), (2, .int (c9)), (0, .ref B)], [.int (lb_g f t (lb_s f t q))], me_w M (nt_u J B 15 (nI (lb_s f t q)))) _ := k
    have hp1 : lb_s f t q ≤ t := (lb_s_le (t - q) q (by omega)).2
    have k := ly_revb 3 (c' := (17, [(2, .int (lb_g f t (lb_s f t q))), (1, .int (Int32.ofInt 0)), (0, .ref B)], [.long (7237492), .ref B], me_w M (nt_u J B 15 (nI (lb_s f t q))))) rfl k
    obtain ⟨d1, o1, ed, kc, k⟩ := lz_c (g := 137) (q := 1) (vs := [.ref B, .long (7237492)]) (rest := []) rfl rfl (by decide) (Or.inr (Or.inl ⟨_, rfl, rfl⟩)) rfl k
    obtain ⟨r, e1, hr⟩ := md_isWord (md_TP hP hO hT1) hT1.1 hp1 kc
    rw [hss, me_uu] at e1
    rw [hss] at hr
    subst e1
    rw [lb_w_not] at hr
    rcases hr with ⟨rfl, g15⟩ | ⟨rfl, g15⟩
    · have k : nt_rn X _ 159 (20, [(2, .int (lb_g f t (lb_s f t q))), (1, .int (Int32.ofInt 0)), (0, .ref B)], [.int (Int32.ofInt 1)], me_w M (nt_u J B 15 (nI (lb_s f t q)))) _ := k
      have k := ly_revb 1 (c' := (if (Int32.ofInt 1) = 0 then 43 else 23, [(2, .int (lb_g f t (lb_s f t q))), (1, .int (Int32.ofInt 0)), (0, .ref B)], [], me_w M (nt_u J B 15 (nI (lb_s f t q))))) rfl k
      rw [if_neg (show ¬ ((Int32.ofInt 1) = 0) from by decide)] at k
      have k := ly_revb 2 (c' := (26, [(2, .int (lb_g f t (lb_s f t q))), (1, .int (Int32.ofInt 0)), (0, .ref B)], [.int (Int32.ofInt 11), .ref B], me_w M (nt_u J B 15 (nI (lb_s f t q))))) rfl k
      obtain ⟨d1, o1, ed, kc, k⟩ := lz_c (g := 160) (q := 1) (vs := [.ref B, .int (Int32.ofInt 11)]) (rest := []) rfl rfl (by decide) (Or.inr (Or.inl ⟨_, rfl, rfl⟩)) rfl k
      rcases md_opens hP hO hT1 hp1 kc with ⟨h10, J2, e1, hT2⟩ | ⟨h10, J2, e1, hT2⟩
      · subst e1
        have k : nt_rn X _ 159 (29, [(2, .int (lb_g f t (lb_s f t q))), (1, .int (Int32.ofInt 0)), (0, .ref B)], [.int (Int32.ofInt 0)], me_w M J2) _ := k
        have k := ly_revb 1 (c' := (if (Int32.ofInt 0) = 0 then 32 else 34, [(2, .int (lb_g f t (lb_s f t q))), (1, .int (Int32.ofInt 0)), (0, .ref B)], [], me_w M J2)) rfl k
        rw [if_pos (show (Int32.ofInt 0) = 0 from by decide)] at k
        have k := ly_revb 1 (c' := (33, [(2, .int (lb_g f t (lb_s f t q))), (1, .int (Int32.ofInt 0)), (0, .ref B)], [.int (Int32.ofInt 0)], me_w M J2)) rfl k
        have k := lz_ri rfl (by decide) k
        exact ⟨_, _, k, Or.inl ⟨rfl, _, _, _, _, _, _, (lb_c_ne (by omega) (by decide) (by decide)), hT2, hp1, 1, Or.inl ⟨g15, h10, rfl⟩⟩⟩
      · subst e1
        have k : nt_rn X _ 159 (29, [(2, .int (lb_g f t (lb_s f t q))), (1, .int (Int32.ofInt 0)), (0, .ref B)], [.int (Int32.ofInt 1)], me_w M J2) _ := k
        have k := ly_revb 1 (c' := (if (Int32.ofInt 1) = 0 then 32 else 34, [(2, .int (lb_g f t (lb_s f t q))), (1, .int (Int32.ofInt 0)), (0, .ref B)], [], me_w M J2)) rfl k
        rw [if_neg (show ¬ ((Int32.ofInt 1) = 0) from by decide)] at k
        have k := ly_revb 1 (c' := (35, [(2, .int (lb_g f t (lb_s f t q))), (1, .int (Int32.ofInt 0)), (0, .ref B)], [.ref B], me_w M J2)) rfl k
        obtain ⟨d1, o1, ed, kc, k⟩ := lz_c (g := 142) (q := 1) (vs := [.ref B]) (rest := []) rfl rfl (by decide) (Or.inr (Or.inl ⟨_, rfl, rfl⟩)) rfl k
        have e1 := md_pass (md_TP hP hO hT2) hT2.1 hp1 kc
        rw [lb_at_l g15] at e1
        subst e1
        have hT3 := md_Tup hP hO hT2 (md_Sq (y := lb_s f t q + (lb_W (nt_sp + 1 + 15)).length) (md_TP hP hO hT2) hT2.1)
        have hp3 : lb_s f t q + (lb_W (nt_sp + 1 + 15)).length ≤ t := g15.1
        have k : nt_rn X _ 159 (38, [(2, .int (lb_g f t (lb_s f t q))), (1, .int (Int32.ofInt 0)), (0, .ref B)], [], me_w M (nt_u J2 B 15 (nI (lb_s f t q + (lb_W (nt_sp + 1 + 15)).length)))) _ := k
        have k := ly_revb 4 (c' := (2, [(1, .int (Int32.ofInt 1)), (2, .int (lb_g f t (lb_s f t q))), (0, .ref B)], [], me_w M (nt_u J2 B 15 (nI (lb_s f t q + (lb_W (nt_sp + 1 + 15)).length))))) rfl k
        have wl := lb_Wp 15 (by decide)
        have hsl := lb_s_le (f := f) (t := t) (t - (lb_s f t q + (lb_W (nt_sp + 1 + 15)).length)) (lb_s f t q + (lb_W (nt_sp + 1 + 15)).length) (by omega)
        obtain ⟨a, J', e9, hF⟩ := ih _ _ _ _ _ (by omega) hT3 hp3 k
        exact ⟨a, J', e9, md_Fs (show lb_s f t q ≤ lb_s f t (lb_s f t q + (lb_W (nt_sp + 1 + 15)).length) by omega) (fun r ⟨k1, hk⟩ => ⟨k1 + 1, Or.inr (Or.inl ⟨g15, h10, hk⟩)⟩) hF⟩
    · have k : nt_rn X _ 159 (20, [(2, .int (lb_g f t (lb_s f t q))), (1, .int (Int32.ofInt 0)), (0, .ref B)], [.int (Int32.ofInt 0)], me_w M (nt_u J B 15 (nI (lb_s f t q)))) _ := k
      have k := ly_revb 1 (c' := (if (Int32.ofInt 0) = 0 then 43 else 23, [(2, .int (lb_g f t (lb_s f t q))), (1, .int (Int32.ofInt 0)), (0, .ref B)], [], me_w M (nt_u J B 15 (nI (lb_s f t q))))) rfl k
      rw [if_pos (show (Int32.ofInt 0) = 0 from by decide)] at k
      have k := ly_revb 3 (c' := (if (lb_g f t (lb_s f t q)) = (Int32.ofInt 91) then 49 else 72, [(2, .int (lb_g f t (lb_s f t q))), (1, .int (Int32.ofInt 0)), (0, .ref B)], [], me_w M (nt_u J B 15 (nI (lb_s f t q))))) rfl k
      by_cases h46 : lb_g f t (lb_s f t q) = Int32.ofInt 91
      · rw [if_pos (show (lb_g f t (lb_s f t q)) = (Int32.ofInt 91) from h46)] at k
        have k := ly_revb 2 (c' := (52, [(2, .int (lb_g f t (lb_s f t q))), (1, .int (Int32.ofInt 0)), (0, .ref B)], [.int (Int32.ofInt 91), .ref B], me_w M (nt_u J B 15 (nI (lb_s f t q))))) rfl k
        obtain ⟨d1, o1, ed, kc, k⟩ := lz_c (g := 160) (q := 1) (vs := [.ref B, .int (Int32.ofInt 91)]) (rest := []) rfl rfl (by decide) (Or.inr (Or.inl ⟨_, rfl, rfl⟩)) rfl k
        rcases md_opens hP hO hT1 hp1 kc with ⟨h10, J2, e1, hT2⟩ | ⟨h10, J2, e1, hT2⟩
        · subst e1
          have k : nt_rn X _ 159 (55, [(2, .int (lb_g f t (lb_s f t q))), (1, .int (Int32.ofInt 0)), (0, .ref B)], [.int (Int32.ofInt 0)], me_w M J2) _ := k
          have k := ly_revb 1 (c' := (if (Int32.ofInt 0) = 0 then 58 else 60, [(2, .int (lb_g f t (lb_s f t q))), (1, .int (Int32.ofInt 0)), (0, .ref B)], [], me_w M J2)) rfl k
          rw [if_pos (show (Int32.ofInt 0) = 0 from by decide)] at k
          have k := ly_revb 1 (c' := (59, [(2, .int (lb_g f t (lb_s f t q))), (1, .int (Int32.ofInt 0)), (0, .ref B)], [.int (Int32.ofInt 0)], me_w M J2)) rfl k
          have k := lz_ri rfl (by decide) k
          exact ⟨_, _, k, Or.inl ⟨rfl, _, _, _, _, _, _, (lb_c_ne (by omega) (by decide) (by decide)), hT2, hp1, 1, Or.inr (Or.inr (Or.inl ⟨g15, h46, h10, rfl⟩))⟩⟩
        · subst e1
          have k : nt_rn X _ 159 (55, [(2, .int (lb_g f t (lb_s f t q))), (1, .int (Int32.ofInt 0)), (0, .ref B)], [.int (Int32.ofInt 1)], me_w M J2) _ := k
          have k := ly_revb 1 (c' := (if (Int32.ofInt 1) = 0 then 58 else 60, [(2, .int (lb_g f t (lb_s f t q))), (1, .int (Int32.ofInt 0)), (0, .ref B)], [], me_w M J2)) rfl k
          rw [if_neg (show ¬ ((Int32.ofInt 1) = 0) from by decide)] at k
          have k := ly_revb 2 (c' := (62, [(2, .int (lb_g f t (lb_s f t q))), (1, .int (Int32.ofInt 0)), (0, .ref B)], [.ref B, .ref B], me_w M J2)) rfl k
          have k := lz_get (a := B) (g := 1115) (M := me_w M J2) (v := .int (nI (lb_s f t q))) rfl (congrArg Value.int (hT2.1.1)) k
          have k := ly_revb 2 (c' := (67, [(2, .int (lb_g f t (lb_s f t q))), (1, .int (Int32.ofInt 0)), (0, .ref B)], [.int ((nI (lb_s f t q)) + (Int32.ofInt 1)), .ref B], me_w M J2)) rfl k
          rw [show ((nI (lb_s f t q)) + (Int32.ofInt 1) : Int32) = nI ((lb_s f t q) + 1) from me_add (k := 1)] at k
          have k := me_put rfl (by decide) k
          have k : nt_rn X _ 159 (70, [(2, .int (lb_g f t (lb_s f t q))), (1, .int (Int32.ofInt 0)), (0, .ref B)], [], me_w M (nt_u J2 B 15 (nI ((lb_s f t q) + 1)))) _ := k
          have hlt : lb_s f t q < t := lb_g_lt (by rw [h46]; decide)
          have hT3 := md_Tup hP hO hT2 (md_Sq (y := lb_s f t q + 1) (md_TP hP hO hT2) hT2.1)
          have hp3 : lb_s f t q + 1 ≤ t := hlt
          have k := ly_revb 3 (c' := (2, [(1, .int (Int32.ofInt 1)), (2, .int (lb_g f t (lb_s f t q))), (0, .ref B)], [], me_w M (nt_u J2 B 15 (nI ((lb_s f t q) + 1))))) rfl k
          have hsl := lb_s_le (f := f) (t := t) (t - (lb_s f t q + 1)) (lb_s f t q + 1) (by omega)
          obtain ⟨a, J', e9, hF⟩ := ih _ _ _ _ _ (by omega) hT3 hp3 k
          exact ⟨a, J', e9, md_Fs (show lb_s f t q ≤ lb_s f t (lb_s f t q + 1) by omega) (fun r ⟨k1, hk⟩ => ⟨k1 + 1, Or.inr (Or.inr (Or.inr (Or.inl ⟨g15, h46, h10, hk⟩)))⟩) hF⟩
      · rw [if_neg (show ¬ ((lb_g f t (lb_s f t q)) = (Int32.ofInt 91)) from h46)] at k
        have k := ly_revb 1 (c' := (2, [(2, .int (lb_g f t (lb_s f t q))), (1, .int (Int32.ofInt 0)), (0, .ref B)], [], me_w M (nt_u J B 15 (nI (lb_s f t q))))) rfl k
        have k := ly_revb 2 (c' := (if (Int32.ofInt 0) = 0 then 75 else 6, [(2, .int (lb_g f t (lb_s f t q))), (1, .int (Int32.ofInt 0)), (0, .ref B)], [], me_w M (nt_u J B 15 (nI (lb_s f t q))))) rfl k
        rw [if_pos (show (Int32.ofInt 0) = 0 from by decide)] at k
        have k := ly_revb 1 (c' := (76, [(2, .int (lb_g f t (lb_s f t q))), (1, .int (Int32.ofInt 0)), (0, .ref B)], [.ref B], me_w M (nt_u J B 15 (nI (lb_s f t q))))) rfl k
        obtain ⟨d1, o1, ed, kc, k⟩ := lz_c (g := 161) (q := 1) (vs := [.ref B]) (rest := []) rfl rfl (by decide) (Or.inr (Or.inl ⟨_, rfl, rfl⟩)) rfl k
        obtain ⟨r1, a1, J4, e1, hfa, hQ⟩ := md_cmp (s0 := s0) (md_TP hP hO hT1) hB hT1.1 hp1 kc
        rw [hss] at hfa
        subst e1
        rcases r1 with c | z1
        · obtain ⟨hc, rfl, q4, m4, e4, hS4, hq4⟩ := hQ
          have k : nt_rn X _ 159 (79, [(2, .int (lb_g f t (lb_s f t q))), (1, .int (Int32.ofInt 0)), (0, .ref B)], [.int (Int32.ofInt 0)], me_w M J4) _ := k
          have k := lz_ri rfl (by decide) k
          exact ⟨_, _, k, Or.inl ⟨rfl, c, _, _, _, _, _, hc, md_Tup hP hO hT1 hS4, hq4, 1, Or.inr (Or.inr (Or.inr (Or.inr ⟨g15, h46, _, hfa, Or.inl ⟨c, rfl, rfl⟩⟩)))⟩⟩
        · obtain ⟨rfl, q4, hz4, hq4, hS4⟩ := hQ
          have k : nt_rn X _ 159 (79, [(2, .int (lb_g f t (lb_s f t q))), (1, .int (Int32.ofInt 0)), (0, .ref B)], [.int (Int32.ofInt 1)], me_w M J4) _ := k
          have k := lz_ri rfl (by decide) k
          exact ⟨_, _, k, Or.inr ⟨rfl, z1, q4, _, _, hz4, hq4, (lb_fa_up hp1 hfa).1, md_Tup hP hO hT1 hS4, fun r ⟨k1, hk⟩ => ⟨k1 + 1, Or.inr (Or.inr (Or.inr (Or.inr ⟨g15, h46, _, hfa, Or.inr ⟨z1, rfl, hk⟩⟩)))⟩⟩⟩
theorem md_fact {X : nt_X} {d t x B Tb Sg Ln Op q m : Nat} {f : Nat → Int32} {M : nt_M} {J0 J : Nat → Nat → Int32} {o : Option Value × nt_M} {dd : Int32} {e : Nat × (Nat → Int32)} {S : List Int32} {s0 : Nat × (Nat → Int32)} (hP : md_P M J0 f t x B Tb Sg Ln) (hO : md_O M B Tb Sg Ln Op) (hB : lb_by f t) (hT : md_T J0 B Sg Ln Op x q 0 m e dd S J) (hp : q ≤ t) (k : nt_ev X d 159 [.ref B] (me_w M J) o) : ∃ a J', o = (some (.int a), me_w M J') ∧ md_F J0 B Sg Ln Op x t f (lb_s f t q, m, (s0, e)) dd S a J' := by
  have k : nt_rn X d 159 (0, [(0, .ref B)], [], me_w M J) o := k
  have t4 : t ≤ 400 := hP.2.2.2.2.2.1
  have hss : lb_s f t (lb_s f t q) = lb_s f t q := lb_ss hp
  have k := ly_revb 2 (c' := (2, [(1, .int (Int32.ofInt 1)), (0, .ref B)], [], me_w M J)) rfl k
  have k := ly_revb 2 (c' := (if (Int32.ofInt 1) = 0 then 75 else 6, [(1, .int (Int32.ofInt 1)), (0, .ref B)], [], me_w M J)) rfl k
  rw [if_neg (show ¬ ((Int32.ofInt 1) = 0) from by decide)] at k
  have k := ly_revb 3 (c' := (9, [(1, .int (Int32.ofInt 0)), (0, .ref B)], [.ref B], me_w M J)) rfl k
  obtain ⟨d1, o1, ed, kc, k⟩ := lz_c (g := 136) (q := 1) (vs := [.ref B]) (rest := []) rfl rfl (by decide) (Or.inr (Or.inl ⟨_, rfl, rfl⟩)) rfl k
  have e1 := md_see (md_TP hP hO hT) hT.1 hp kc
  subst e1
  have hT1 := md_Tup hP hO hT (md_Sq (y := lb_s f t q) (md_TP hP hO hT) hT.1)
  have k : nt_rn X _ 159 (12, [(1, .int (Int32.ofInt 0)), (0, .ref B)], [.int (lb_g f t (lb_s f t q))], me_w M (nt_u J B 15 (nI (lb_s f t q)))) _ := k
  have hp1 : lb_s f t q ≤ t := (lb_s_le (t - q) q (by omega)).2
  have k := ly_revb 3 (c' := (17, [(2, .int (lb_g f t (lb_s f t q))), (1, .int (Int32.ofInt 0)), (0, .ref B)], [.long (7237492), .ref B], me_w M (nt_u J B 15 (nI (lb_s f t q))))) rfl k
  obtain ⟨d1, o1, ed, kc, k⟩ := lz_c (g := 137) (q := 1) (vs := [.ref B, .long (7237492)]) (rest := []) rfl rfl (by decide) (Or.inr (Or.inl ⟨_, rfl, rfl⟩)) rfl k
  obtain ⟨r, e1, hr⟩ := md_isWord (md_TP hP hO hT1) hT1.1 hp1 kc
  rw [hss, me_uu] at e1
  rw [hss] at hr
  subst e1
  rw [lb_w_not] at hr
  rcases hr with ⟨rfl, g15⟩ | ⟨rfl, g15⟩
  · have k : nt_rn X _ 159 (20, [(2, .int (lb_g f t (lb_s f t q))), (1, .int (Int32.ofInt 0)), (0, .ref B)], [.int (Int32.ofInt 1)], me_w M (nt_u J B 15 (nI (lb_s f t q)))) _ := k
    have k := ly_revb 1 (c' := (if (Int32.ofInt 1) = 0 then 43 else 23, [(2, .int (lb_g f t (lb_s f t q))), (1, .int (Int32.ofInt 0)), (0, .ref B)], [], me_w M (nt_u J B 15 (nI (lb_s f t q))))) rfl k
    rw [if_neg (show ¬ ((Int32.ofInt 1) = 0) from by decide)] at k
    have k := ly_revb 2 (c' := (26, [(2, .int (lb_g f t (lb_s f t q))), (1, .int (Int32.ofInt 0)), (0, .ref B)], [.int (Int32.ofInt 11), .ref B], me_w M (nt_u J B 15 (nI (lb_s f t q))))) rfl k
    obtain ⟨d1, o1, ed, kc, k⟩ := lz_c (g := 160) (q := 1) (vs := [.ref B, .int (Int32.ofInt 11)]) (rest := []) rfl rfl (by decide) (Or.inr (Or.inl ⟨_, rfl, rfl⟩)) rfl k
    rcases md_opens hP hO hT1 hp1 kc with ⟨h10, J2, e1, hT2⟩ | ⟨h10, J2, e1, hT2⟩
    · subst e1
      have k : nt_rn X _ 159 (29, [(2, .int (lb_g f t (lb_s f t q))), (1, .int (Int32.ofInt 0)), (0, .ref B)], [.int (Int32.ofInt 0)], me_w M J2) _ := k
      have k := ly_revb 1 (c' := (if (Int32.ofInt 0) = 0 then 32 else 34, [(2, .int (lb_g f t (lb_s f t q))), (1, .int (Int32.ofInt 0)), (0, .ref B)], [], me_w M J2)) rfl k
      rw [if_pos (show (Int32.ofInt 0) = 0 from by decide)] at k
      have k := ly_revb 1 (c' := (33, [(2, .int (lb_g f t (lb_s f t q))), (1, .int (Int32.ofInt 0)), (0, .ref B)], [.int (Int32.ofInt 0)], me_w M J2)) rfl k
      have k := lz_ri rfl (by decide) k
      exact ⟨_, _, k, Or.inl ⟨rfl, _, _, _, _, _, _, (lb_c_ne (by omega) (by decide) (by decide)), hT2, hp1, 1, Or.inl ⟨g15, h10, rfl⟩⟩⟩
    · subst e1
      have k : nt_rn X _ 159 (29, [(2, .int (lb_g f t (lb_s f t q))), (1, .int (Int32.ofInt 0)), (0, .ref B)], [.int (Int32.ofInt 1)], me_w M J2) _ := k
      have k := ly_revb 1 (c' := (if (Int32.ofInt 1) = 0 then 32 else 34, [(2, .int (lb_g f t (lb_s f t q))), (1, .int (Int32.ofInt 0)), (0, .ref B)], [], me_w M J2)) rfl k
      rw [if_neg (show ¬ ((Int32.ofInt 1) = 0) from by decide)] at k
      have k := ly_revb 1 (c' := (35, [(2, .int (lb_g f t (lb_s f t q))), (1, .int (Int32.ofInt 0)), (0, .ref B)], [.ref B], me_w M J2)) rfl k
      obtain ⟨d1, o1, ed, kc, k⟩ := lz_c (g := 142) (q := 1) (vs := [.ref B]) (rest := []) rfl rfl (by decide) (Or.inr (Or.inl ⟨_, rfl, rfl⟩)) rfl k
      have e1 := md_pass (md_TP hP hO hT2) hT2.1 hp1 kc
      rw [lb_at_l g15] at e1
      subst e1
      have hT3 := md_Tup hP hO hT2 (md_Sq (y := lb_s f t q + (lb_W (nt_sp + 1 + 15)).length) (md_TP hP hO hT2) hT2.1)
      have hp3 : lb_s f t q + (lb_W (nt_sp + 1 + 15)).length ≤ t := g15.1
      have k : nt_rn X _ 159 (38, [(2, .int (lb_g f t (lb_s f t q))), (1, .int (Int32.ofInt 0)), (0, .ref B)], [], me_w M (nt_u J2 B 15 (nI (lb_s f t q + (lb_W (nt_sp + 1 + 15)).length)))) _ := k
      have k := ly_revb 4 (c' := (2, [(1, .int (Int32.ofInt 1)), (2, .int (lb_g f t (lb_s f t q))), (0, .ref B)], [], me_w M (nt_u J2 B 15 (nI (lb_s f t q + (lb_W (nt_sp + 1 + 15)).length))))) rfl k
      have wl := lb_Wp 15 (by decide)
      have hsl := lb_s_le (f := f) (t := t) (t - (lb_s f t q + (lb_W (nt_sp + 1 + 15)).length)) (lb_s f t q + (lb_W (nt_sp + 1 + 15)).length) (by omega)
      obtain ⟨a, J', e9, hF⟩ := md_factl (m := m) (e := e) (s0 := s0) hP hO hB (t - (lb_s f t q) + 1) _ _ _ _ _ (by omega) hT3 hp3 k
      exact ⟨a, J', e9, md_Fs (show lb_s f t q ≤ lb_s f t (lb_s f t q + (lb_W (nt_sp + 1 + 15)).length) by omega) (fun r ⟨k1, hk⟩ => ⟨k1 + 1, Or.inr (Or.inl ⟨g15, h10, hk⟩)⟩) hF⟩
  · have k : nt_rn X _ 159 (20, [(2, .int (lb_g f t (lb_s f t q))), (1, .int (Int32.ofInt 0)), (0, .ref B)], [.int (Int32.ofInt 0)], me_w M (nt_u J B 15 (nI (lb_s f t q)))) _ := k
    have k := ly_revb 1 (c' := (if (Int32.ofInt 0) = 0 then 43 else 23, [(2, .int (lb_g f t (lb_s f t q))), (1, .int (Int32.ofInt 0)), (0, .ref B)], [], me_w M (nt_u J B 15 (nI (lb_s f t q))))) rfl k
    rw [if_pos (show (Int32.ofInt 0) = 0 from by decide)] at k
    have k := ly_revb 3 (c' := (if (lb_g f t (lb_s f t q)) = (Int32.ofInt 91) then 49 else 72, [(2, .int (lb_g f t (lb_s f t q))), (1, .int (Int32.ofInt 0)), (0, .ref B)], [], me_w M (nt_u J B 15 (nI (lb_s f t q))))) rfl k
    by_cases h46 : lb_g f t (lb_s f t q) = Int32.ofInt 91
    · rw [if_pos (show (lb_g f t (lb_s f t q)) = (Int32.ofInt 91) from h46)] at k
      have k := ly_revb 2 (c' := (52, [(2, .int (lb_g f t (lb_s f t q))), (1, .int (Int32.ofInt 0)), (0, .ref B)], [.int (Int32.ofInt 91), .ref B], me_w M (nt_u J B 15 (nI (lb_s f t q))))) rfl k
      obtain ⟨d1, o1, ed, kc, k⟩ := lz_c (g := 160) (q := 1) (vs := [.ref B, .int (Int32.ofInt 91)]) (rest := []) rfl rfl (by decide) (Or.inr (Or.inl ⟨_, rfl, rfl⟩)) rfl k
      rcases md_opens hP hO hT1 hp1 kc with ⟨h10, J2, e1, hT2⟩ | ⟨h10, J2, e1, hT2⟩
      · subst e1
        have k : nt_rn X _ 159 (55, [(2, .int (lb_g f t (lb_s f t q))), (1, .int (Int32.ofInt 0)), (0, .ref B)], [.int (Int32.ofInt 0)], me_w M J2) _ := k
        have k := ly_revb 1 (c' := (if (Int32.ofInt 0) = 0 then 58 else 60, [(2, .int (lb_g f t (lb_s f t q))), (1, .int (Int32.ofInt 0)), (0, .ref B)], [], me_w M J2)) rfl k
        rw [if_pos (show (Int32.ofInt 0) = 0 from by decide)] at k
        have k := ly_revb 1 (c' := (59, [(2, .int (lb_g f t (lb_s f t q))), (1, .int (Int32.ofInt 0)), (0, .ref B)], [.int (Int32.ofInt 0)], me_w M J2)) rfl k
        have k := lz_ri rfl (by decide) k
        exact ⟨_, _, k, Or.inl ⟨rfl, _, _, _, _, _, _, (lb_c_ne (by omega) (by decide) (by decide)), hT2, hp1, 1, Or.inr (Or.inr (Or.inl ⟨g15, h46, h10, rfl⟩))⟩⟩
      · subst e1
        have k : nt_rn X _ 159 (55, [(2, .int (lb_g f t (lb_s f t q))), (1, .int (Int32.ofInt 0)), (0, .ref B)], [.int (Int32.ofInt 1)], me_w M J2) _ := k
        have k := ly_revb 1 (c' := (if (Int32.ofInt 1) = 0 then 58 else 60, [(2, .int (lb_g f t (lb_s f t q))), (1, .int (Int32.ofInt 0)), (0, .ref B)], [], me_w M J2)) rfl k
        rw [if_neg (show ¬ ((Int32.ofInt 1) = 0) from by decide)] at k
        have k := ly_revb 2 (c' := (62, [(2, .int (lb_g f t (lb_s f t q))), (1, .int (Int32.ofInt 0)), (0, .ref B)], [.ref B, .ref B], me_w M J2)) rfl k
        have k := lz_get (a := B) (g := 1115) (M := me_w M J2) (v := .int (nI (lb_s f t q))) rfl (congrArg Value.int (hT2.1.1)) k
        have k := ly_revb 2 (c' := (67, [(2, .int (lb_g f t (lb_s f t q))), (1, .int (Int32.ofInt 0)), (0, .ref B)], [.int ((nI (lb_s f t q)) + (Int32.ofInt 1)), .ref B], me_w M J2)) rfl k
        rw [show ((nI (lb_s f t q)) + (Int32.ofInt 1) : Int32) = nI ((lb_s f t q) + 1) from me_add (k := 1)] at k
        have k := me_put rfl (by decide) k
        have k : nt_rn X _ 159 (70, [(2, .int (lb_g f t (lb_s f t q))), (1, .int (Int32.ofInt 0)), (0, .ref B)], [], me_w M (nt_u J2 B 15 (nI ((lb_s f t q) + 1)))) _ := k
        have hlt : lb_s f t q < t := lb_g_lt (by rw [h46]; decide)
        have hT3 := md_Tup hP hO hT2 (md_Sq (y := lb_s f t q + 1) (md_TP hP hO hT2) hT2.1)
        have hp3 : lb_s f t q + 1 ≤ t := hlt
        have k := ly_revb 3 (c' := (2, [(1, .int (Int32.ofInt 1)), (2, .int (lb_g f t (lb_s f t q))), (0, .ref B)], [], me_w M (nt_u J2 B 15 (nI ((lb_s f t q) + 1))))) rfl k
        have hsl := lb_s_le (f := f) (t := t) (t - (lb_s f t q + 1)) (lb_s f t q + 1) (by omega)
        obtain ⟨a, J', e9, hF⟩ := md_factl (m := m) (e := e) (s0 := s0) hP hO hB (t - (lb_s f t q) + 1) _ _ _ _ _ (by omega) hT3 hp3 k
        exact ⟨a, J', e9, md_Fs (show lb_s f t q ≤ lb_s f t (lb_s f t q + 1) by omega) (fun r ⟨k1, hk⟩ => ⟨k1 + 1, Or.inr (Or.inr (Or.inr (Or.inl ⟨g15, h46, h10, hk⟩)))⟩) hF⟩
    · rw [if_neg (show ¬ ((lb_g f t (lb_s f t q)) = (Int32.ofInt 91)) from h46)] at k
      have k := ly_revb 1 (c' := (2, [(2, .int (lb_g f t (lb_s f t q))), (1, .int (Int32.ofInt 0)), (0, .ref B)], [], me_w M (nt_u J B 15 (nI (lb_s f t q))))) rfl k
      have k := ly_revb 2 (c' := (if (Int32.ofInt 0) = 0 then 75 else 6, [(2, .int (lb_g f t (lb_s f t q))), (1, .int (Int32.ofInt 0)), (0, .ref B)], [], me_w M (nt_u J B 15 (nI (lb_s f t q))))) rfl k
      rw [if_pos (show (Int32.ofInt 0) = 0 from by decide)] at k
      have k := ly_revb 1 (c' := (76, [(2, .int (lb_g f t (lb_s f t q))), (1, .int (Int32.ofInt 0)), (0, .ref B)], [.ref B], me_w M (nt_u J B 15 (nI (lb_s f t q))))) rfl k
      obtain ⟨d1, o1, ed, kc, k⟩ := lz_c (g := 161) (q := 1) (vs := [.ref B]) (rest := []) rfl rfl (by decide) (Or.inr (Or.inl ⟨_, rfl, rfl⟩)) rfl k
      obtain ⟨r1, a1, J4, e1, hfa, hQ⟩ := md_cmp (s0 := s0) (md_TP hP hO hT1) hB hT1.1 hp1 kc
      rw [hss] at hfa
      subst e1
      rcases r1 with c | z1
      · obtain ⟨hc, rfl, q4, m4, e4, hS4, hq4⟩ := hQ
        have k : nt_rn X _ 159 (79, [(2, .int (lb_g f t (lb_s f t q))), (1, .int (Int32.ofInt 0)), (0, .ref B)], [.int (Int32.ofInt 0)], me_w M J4) _ := k
        have k := lz_ri rfl (by decide) k
        exact ⟨_, _, k, Or.inl ⟨rfl, c, _, _, _, _, _, hc, md_Tup hP hO hT1 hS4, hq4, 1, Or.inr (Or.inr (Or.inr (Or.inr ⟨g15, h46, _, hfa, Or.inl ⟨c, rfl, rfl⟩⟩)))⟩⟩
      · obtain ⟨rfl, q4, hz4, hq4, hS4⟩ := hQ
        have k : nt_rn X _ 159 (79, [(2, .int (lb_g f t (lb_s f t q))), (1, .int (Int32.ofInt 0)), (0, .ref B)], [.int (Int32.ofInt 1)], me_w M J4) _ := k
        have k := lz_ri rfl (by decide) k
        exact ⟨_, _, k, Or.inr ⟨rfl, z1, q4, _, _, hz4, hq4, (lb_fa_up hp1 hfa).1, md_Tup hP hO hT1 hS4, fun r ⟨k1, hk⟩ => ⟨k1 + 1, Or.inr (Or.inr (Or.inr (Or.inr ⟨g15, h46, _, hfa, Or.inr ⟨z1, rfl, hk⟩⟩)))⟩⟩⟩
theorem md_clol {X : nt_X} {d t x B Tb Sg Ln Op m : Nat} {f : Nat → Int32} {M : nt_M} {J0 : Nat → Nat → Int32} {o : Option Value × nt_M} (hP : md_P M J0 f t x B Tb Sg Ln) (hO : md_O M B Tb Sg Ln Op) : ∀ (c q : Nat) (e : lb_E) (dd : Int32) (S : List Int32) (J : Nat → Nat → Int32), t - lb_s f t q < c → md_T J0 B Sg Ln Op x q 0 m e.2 dd S J → q ≤ t → nt_rn X d 162 (5, [(0, .ref B)], [], me_w M J) o → ∃ (J' : Nat → Nat → Int32) (z1 : lb_Z) (q1 : Nat) (dd1 : Int32) (S1 : List Int32), o = (none, me_w M J') ∧ lb_s f t q1 = z1.1 ∧ q1 ≤ t ∧ lb_s f t q ≤ z1.1 ∧ md_T J0 B Sg Ln Op x q1 0 z1.2.1 z1.2.2.2 dd1 S1 J' ∧ ∀ r, (∃ k, lb_ma f t k 3 dd1 S1 z1 r) → ∃ k, lb_ma f t k 2 dd S (lb_s f t q, m, e) r := by
  have t4 : t ≤ 400 := hP.2.2.2.2.2.1
  intro cc
  induction cc with
  | zero => intro q e dd S J hc; omega
  | succ cc ih =>
    intro q e dd S J hcc hT hp k
    have hss : lb_s f t (lb_s f t q) = lb_s f t q := lb_ss hp
    have k := ly_revb 1 (c' := (6, [(0, .ref B)], [.ref B], me_w M J)) rfl k
    obtain ⟨d1, o1, ed, kc, k⟩ := lz_c (g := 136) (q := 1) (vs := [.ref B]) (rest := []) rfl rfl (by decide) (Or.inr (Or.inl ⟨_, rfl, rfl⟩)) rfl k
    have e1 := md_see (md_TP hP hO hT) hT.1 hp kc
    subst e1
    have hT1 := md_Tup hP hO hT (md_Sq (y := lb_s f t q) (md_TP hP hO hT) hT.1)
    have k : nt_rn X _ 162 (9, [(0, .ref B)], [.int (lb_g f t (lb_s f t q))], me_w M (nt_u J B 15 (nI (lb_s f t q)))) _ := k
    have hp1 : lb_s f t q ≤ t := (lb_s_le (t - q) q (by omega)).2
    have k := ly_revb 2 (c' := (if (lb_g f t (lb_s f t q)) = (Int32.ofInt 93) then 14 else 64, [(0, .ref B)], [], me_w M (nt_u J B 15 (nI (lb_s f t q))))) rfl k
    by_cases h11 : lb_g f t (lb_s f t q) = Int32.ofInt 93
    · rw [if_pos (show (lb_g f t (lb_s f t q)) = (Int32.ofInt 93) from h11)] at k
      have k := ly_revb 1 (c' := (15, [(0, .ref B)], [.ref B], me_w M (nt_u J B 15 (nI (lb_s f t q))))) rfl k
      obtain ⟨d1, o1, ed, kc, k⟩ := lz_c (g := 165) (q := 1) (vs := [.ref B]) (rest := []) rfl rfl (by decide) (Or.inr (Or.inl ⟨_, rfl, rfl⟩)) rfl k
      obtain ⟨r, e1, hin⟩ := md_inside hP hO hT1 kc
      subst e1
      rcases hin with ⟨rfl, hin⟩ | ⟨rfl, hin⟩
      · have k : nt_rn X _ 162 (18, [(0, .ref B)], [.int (Int32.ofInt 1)], me_w M (nt_u J B 15 (nI (lb_s f t q)))) _ := k
        have k := ly_revb 1 (c' := (if (Int32.ofInt 1) = 0 then 64 else 21, [(0, .ref B)], [], me_w M (nt_u J B 15 (nI (lb_s f t q))))) rfl k
        rw [if_neg (show ¬ ((Int32.ofInt 1) = 0) from by decide)] at k
        have k := ly_revb 2 (c' := (23, [(0, .ref B)], [.int (Int32.ofInt 1), .ref B], me_w M (nt_u J B 15 (nI (lb_s f t q))))) rfl k
        obtain ⟨d1, o1, ed, kc, k⟩ := lz_c (g := 163) (q := 1) (vs := [.ref B, .int (Int32.ofInt 1)]) (rest := []) rfl rfl (by decide) (Or.inr (Or.inl ⟨_, rfl, rfl⟩)) rfl k
        obtain ⟨J2, e1, hT2⟩ := md_settles (l := 1) hP hO (by decide) hp1 S dd e _ hT1 kc
        subst e1
        obtain ⟨y, S2, hS2⟩ := lb_st_ne (l := 1) (by decide) S dd e hin
        rw [hS2] at hT2
        have s4 : S2.length + 1 ≤ 400 := hT2.2.2.2.2.2
        have k : nt_rn X _ 162 (26, [(0, .ref B)], [], me_w M J2) _ := k
        have k := ly_revb 2 (c' := (28, [(0, .ref B)], [.ref B, .ref B], me_w M J2)) rfl k
        have k := lz_get (a := B) (g := 1123) (M := me_w M J2) (v := .int (nI (S2.length + 1))) rfl (congrArg Value.int (hT2.2.2.2.1)) k
        have k := ly_revb 2 (c' := (33, [(0, .ref B)], [.int ((nI (S2.length + 1)) - (Int32.ofInt 1)), .ref B], me_w M J2)) rfl k
        rw [show ((nI (S2.length + 1)) - (Int32.ofInt 1) : Int32) = nI S2.length from (me_subn (b := 1) (by omega)).trans (congrArg nI (by omega))] at k
        have k := me_put rfl (by decide) k
        have k : nt_rn X _ 162 (36, [(0, .ref B)], [], me_w M (nt_u J2 B 23 (nI S2.length))) _ := k
        have hT3 := md_Tpop hP hO hT2
        have k := ly_revb 2 (c' := (38, [(0, .ref B)], [.ref B, .ref B], me_w M (nt_u J2 B 23 (nI S2.length)))) rfl k
        have k := lz_get (a := B) (g := 1120) (M := me_w M (nt_u J2 B 23 (nI S2.length))) (v := .int ((lb_st 1 S dd e).1)) rfl (congrArg Value.int (hT3.2.2.1)) k
        have k := ly_revb 2 (c' := (43, [(0, .ref B)], [.int (((lb_st 1 S dd e).1) - (Int32.ofInt 1)), .ref B], me_w M (nt_u J2 B 23 (nI S2.length)))) rfl k
        have k := me_put rfl (by decide) k
        have k : nt_rn X _ 162 (46, [(0, .ref B)], [], me_w M (nt_u (nt_u J2 B 23 (nI S2.length)) B 20 (((lb_st 1 S dd e).1) - (Int32.ofInt 1)))) _ := k
        have hT4 := md_Td (y := (lb_st 1 S dd e).1 - Int32.ofInt 1) hP hO hT3
        have k := ly_revb 2 (c' := (48, [(0, .ref B)], [.ref B, .ref B], me_w M (nt_u (nt_u J2 B 23 (nI S2.length)) B 20 (((lb_st 1 S dd e).1) - (Int32.ofInt 1))))) rfl k
        have k := lz_get (a := B) (g := 1115) (M := me_w M (nt_u (nt_u J2 B 23 (nI S2.length)) B 20 (((lb_st 1 S dd e).1) - (Int32.ofInt 1)))) (v := .int (nI (lb_s f t q))) rfl (congrArg Value.int (hT4.1.1)) k
        have k := ly_revb 2 (c' := (53, [(0, .ref B)], [.int ((nI (lb_s f t q)) + (Int32.ofInt 1)), .ref B], me_w M (nt_u (nt_u J2 B 23 (nI S2.length)) B 20 (((lb_st 1 S dd e).1) - (Int32.ofInt 1))))) rfl k
        rw [show ((nI (lb_s f t q)) + (Int32.ofInt 1) : Int32) = nI ((lb_s f t q) + 1) from me_add (k := 1)] at k
        have k := me_put rfl (by decide) k
        have k : nt_rn X _ 162 (56, [(0, .ref B)], [], me_w M (nt_u (nt_u (nt_u J2 B 23 (nI S2.length)) B 20 (((lb_st 1 S dd e).1) - (Int32.ofInt 1))) B 15 (nI ((lb_s f t q) + 1)))) _ := k
        have hlt : lb_s f t q < t := lb_g_lt (by rw [h11]; decide)
        have hp5 : lb_s f t q + 1 ≤ t := hlt
        have hT5 := md_Tup hP hO hT4 (md_Sq (y := lb_s f t q + 1) (md_TP hP hO hT4) hT4.1)
        have k := ly_revb 2 (c' := (58, [(0, .ref B)], [.int (Int32.ofInt 3), .ref B], me_w M (nt_u (nt_u (nt_u J2 B 23 (nI S2.length)) B 20 (((lb_st 1 S dd e).1) - (Int32.ofInt 1))) B 15 (nI ((lb_s f t q) + 1))))) rfl k
        obtain ⟨d1, o1, ed, kc, k⟩ := lz_c (g := 163) (q := 1) (vs := [.ref B, .int (Int32.ofInt 3)]) (rest := []) rfl rfl (by decide) (Or.inr (Or.inl ⟨_, rfl, rfl⟩)) rfl k
        obtain ⟨J6, e1, hT6⟩ := md_settles (l := 3) hP hO (by decide) hp5 S2 ((lb_st 1 S dd e).1 - Int32.ofInt 1) (lb_st 1 S dd e).2.2 _ hT5 kc
        subst e1
        have k : nt_rn X _ 162 (61, [(0, .ref B)], [], me_w M J6) _ := k
        have k := ly_revb 1 (c' := (5, [(0, .ref B)], [], me_w M J6)) rfl k
        have hsl := lb_s_le (f := f) (t := t) (t - (lb_s f t q + 1)) (lb_s f t q + 1) (by omega)
        obtain ⟨J', z1, q1, dd1, S1, e9, hz1, hq1, hle, hT9, hr⟩ := ih _ _ _ _ _ (by omega) hT6 hp5 k
        refine ⟨J', z1, q1, dd1, S1, e9, hz1, hq1, by omega, hT9, fun r hh => ?_⟩
        obtain ⟨k1, hk⟩ := hr r hh
        refine ⟨k1 + 2, Or.inl ⟨⟨h11, hin⟩, ?_⟩⟩
        dsimp only
        rw [hS2]
        exact hk
      · have k : nt_rn X _ 162 (18, [(0, .ref B)], [.int (Int32.ofInt 0)], me_w M (nt_u J B 15 (nI (lb_s f t q)))) _ := k
        have k := ly_revb 1 (c' := (if (Int32.ofInt 0) = 0 then 64 else 21, [(0, .ref B)], [], me_w M (nt_u J B 15 (nI (lb_s f t q))))) rfl k
        rw [if_pos (show (Int32.ofInt 0) = 0 from by decide)] at k
        have k := lz_rv rfl rfl k
        exact ⟨_, (lb_s f t q, m, e), lb_s f t q, dd, S, k, hss, hp1, Nat.le_refl _, hT1, fun r ⟨k1, hk⟩ => ⟨k1 + 1, Or.inr ⟨fun c => hin c.2, hk⟩⟩⟩
    · rw [if_neg (show ¬ ((lb_g f t (lb_s f t q)) = (Int32.ofInt 93)) from h11)] at k
      have k := lz_rv rfl rfl k
      exact ⟨_, (lb_s f t q, m, e), lb_s f t q, dd, S, k, hss, hp1, Nat.le_refl _, hT1, fun r ⟨k1, hk⟩ => ⟨k1 + 1, Or.inr ⟨fun c => h11 c.1, hk⟩⟩⟩
theorem md_closes {X : nt_X} {d t x B Tb Sg Ln Op q m : Nat} {f : Nat → Int32} {M : nt_M} {J0 J : Nat → Nat → Int32} {o : Option Value × nt_M} {dd : Int32} {e : lb_E} {S : List Int32} (hP : md_P M J0 f t x B Tb Sg Ln) (hO : md_O M B Tb Sg Ln Op) (hT : md_T J0 B Sg Ln Op x q 0 m e.2 dd S J) (hp : q ≤ t) (k : nt_ev X d 162 [.ref B] (me_w M J) o) : ∃ (J' : Nat → Nat → Int32) (z1 : lb_Z) (q1 : Nat) (dd1 : Int32) (S1 : List Int32), o = (none, me_w M J') ∧ lb_s f t q1 = z1.1 ∧ q1 ≤ t ∧ lb_s f t q ≤ z1.1 ∧ md_T J0 B Sg Ln Op x q1 0 z1.2.1 z1.2.2.2 dd1 S1 J' ∧ ∀ r, (∃ k, lb_ma f t k 3 dd1 S1 z1 r) → ∃ k, lb_ma f t k 1 dd S (lb_s f t q, m, e) r := by
  have k : nt_rn X d 162 (0, [(0, .ref B)], [], me_w M J) o := k
  have t4 : t ≤ 400 := hP.2.2.2.2.2.1
  have k := ly_revb 2 (c' := (2, [(0, .ref B)], [.int (Int32.ofInt 3), .ref B], me_w M J)) rfl k
  obtain ⟨d1, o1, ed, kc, k⟩ := lz_c (g := 163) (q := 1) (vs := [.ref B, .int (Int32.ofInt 3)]) (rest := []) rfl rfl (by decide) (Or.inr (Or.inl ⟨_, rfl, rfl⟩)) rfl k
  obtain ⟨J6, e1, hT6⟩ := md_settles (l := 3) hP hO (by decide) hp S dd e _ hT kc
  subst e1
  have k : nt_rn X _ 162 (5, [(0, .ref B)], [], me_w M J6) _ := k
  obtain ⟨J', z1, q1, dd1, S1, e9, hz1, hq1, hle, hT9, hr⟩ := md_clol hP hO (t - lb_s f t q + 1) _ _ _ _ _ (by omega) hT6 hp k
  refine ⟨J', z1, q1, dd1, S1, e9, hz1, hq1, hle, hT9, fun r hh => ?_⟩
  obtain ⟨k1, hk⟩ := hr r hh
  exact ⟨k1 + 1, hk⟩
theorem md_tesl {X : nt_X} {d t x B Tb Sg Ln Op : Nat} {f : Nat → Int32} {M : nt_M} {J0 : Nat → Nat → Int32} {o : Option Value × nt_M} (hP : md_P M J0 f t x B Tb Sg Ln) (hO : md_O M B Tb Sg Ln Op) (hB : lb_by f t) : ∀ (c q m : Nat) (e : lb_E) (dd : Int32) (S : List Int32) (J : Nat → Nat → Int32) (s9 : Int32), t - lb_s f t q < c → md_T J0 B Sg Ln Op x q 0 m e.2 dd S J → q ≤ t → nt_rn X d 158 (12, [(2, .int s9), (1, .int (Int32.ofInt 1)), (0, .ref B)], [], me_w M J) o → ∃ r a J', o = (some (.int a), me_w M J') ∧ (∃ k, lb_ma f t k 0 dd S (lb_s f t q, m, e) r) ∧ md_QT J0 B Sg Ln Op x t f r a J' := by
  have t4 : t ≤ 400 := hP.2.2.2.2.2.1
  intro cc
  induction cc with
  | zero => intro q m e dd S J s9 hc; omega
  | succ cc ih =>
    intro q m e dd S J s9 hcc hT hp k
    have k := ly_revb 2 (c' := (if (Int32.ofInt 1) = 0 then 112 else 16, [(2, .int (s9)), (1, .int (Int32.ofInt 1)), (0, .ref B)], [], me_w M J)) rfl k
    rw [if_neg (show ¬ ((Int32.ofInt 1) = 0) from by decide)] at k
    have k := ly_revb 1 (c' := (17, [(2, .int (s9)), (1, .int (Int32.ofInt 1)), (0, .ref B)], [.ref B], me_w M J)) rfl k
    obtain ⟨d1, o1, ed, kc, k⟩ := lz_c (g := 159) (q := 1) (vs := [.ref B]) (rest := []) rfl rfl (by decide) (Or.inr (Or.inl ⟨_, rfl, rfl⟩)) rfl k
    obtain ⟨a1, J1, e1, hF⟩ := md_fact (s0 := e.1) hP hO hB hT hp kc
    subst e1
    rcases hF with ⟨rfl, c, q1, m1, e1, dd1, S1, hc, hT1, hq1, hk1⟩ | ⟨rfl, z1, q1, dd1, S1, hz1, hq1, hlt1, hT1, hr1⟩
    · have k : nt_rn X _ 158 (20, [(2, .int (s9)), (1, .int (Int32.ofInt 1)), (0, .ref B)], [.int (Int32.ofInt 0)], me_w M J1) _ := k
      have k := ly_revb 1 (c' := (if (Int32.ofInt 0) = 0 then 23 else 25, [(2, .int (s9)), (1, .int (Int32.ofInt 1)), (0, .ref B)], [], me_w M J1)) rfl k
      rw [if_pos (show (Int32.ofInt 0) = 0 from by decide)] at k
      have k := ly_revb 1 (c' := (24, [(2, .int (s9)), (1, .int (Int32.ofInt 1)), (0, .ref B)], [.int (Int32.ofInt 0)], me_w M J1)) rfl k
      have k := lz_ri rfl (by decide) k
      exact ⟨.inl c, _, _, k, hk1, hc, rfl, _, _, _, _, _, hT1, hq1⟩
    · have k : nt_rn X _ 158 (20, [(2, .int (s9)), (1, .int (Int32.ofInt 1)), (0, .ref B)], [.int (Int32.ofInt 1)], me_w M J1) _ := k
      have k := ly_revb 1 (c' := (if (Int32.ofInt 1) = 0 then 23 else 25, [(2, .int (s9)), (1, .int (Int32.ofInt 1)), (0, .ref B)], [], me_w M J1)) rfl k
      rw [if_neg (show ¬ ((Int32.ofInt 1) = 0) from by decide)] at k
      have k := ly_revb 1 (c' := (26, [(2, .int (s9)), (1, .int (Int32.ofInt 1)), (0, .ref B)], [.ref B], me_w M J1)) rfl k
      obtain ⟨d1, o1, ed, kc, k⟩ := lz_c (g := 162) (q := 1) (vs := [.ref B]) (rest := []) rfl rfl (by decide) (Or.inr (Or.inl ⟨_, rfl, rfl⟩)) rfl k
      obtain ⟨J2, z2, q2, dd2, S2, e1, hz2, hq2, hle2, hT2, hr2⟩ := md_closes (e := z1.2.2) hP hO hT1 hq1 kc
      subst e1
      rw [show (lb_s f t q1, z1.2.1, z1.2.2) = z1 from by rw [hz1]] at hr2
      rw [hz1] at hle2
      have hp2 : z2.1 ≤ t := by rw [← hz2]; exact (lb_s_le (t - q2) q2 (by omega)).2
      have hs2 : lb_s f t z2.1 = z2.1 := by rw [← hz2]; exact lb_ss hq2
      have k : nt_rn X _ 158 (29, [(2, .int (s9)), (1, .int (Int32.ofInt 1)), (0, .ref B)], [], me_w M J2) _ := k
      have k := ly_revb 2 (c' := (33, [(2, .int (s9)), (1, .int (Int32.ofInt 1)), (0, .ref B)], [.long (6385252), .ref B], me_w M J2)) rfl k
      obtain ⟨d1, o1, ed, kc, k⟩ := lz_c (g := 137) (q := 1) (vs := [.ref B, .long (6385252)]) (rest := []) rfl rfl (by decide) (Or.inr (Or.inl ⟨_, rfl, rfl⟩)) rfl k
      obtain ⟨r, e1, hr⟩ := md_isWord (md_TP hP hO hT2) hT2.1 hq2 kc
      rw [hz2] at e1
      rw [hz2] at hr
      have hT3 := md_Tup hP hO hT2 (md_Sq (y := z2.1) (md_TP hP hO hT2) hT2.1)
      subst e1
      rw [lb_w_and] at hr
      rcases hr with ⟨rfl, g16⟩ | ⟨rfl, g16⟩
      · have k : nt_rn X _ 158 (36, [(2, .int (s9)), (1, .int (Int32.ofInt 1)), (0, .ref B)], [.int (Int32.ofInt 1)], me_w M (nt_u J2 B 15 (nI z2.1))) _ := k
        have k := ly_revb 1 (c' := (if (Int32.ofInt 1) = 0 then 39 else 49, [(2, .int (s9)), (1, .int (Int32.ofInt 1)), (0, .ref B)], [], me_w M (nt_u J2 B 15 (nI z2.1)))) rfl k
        rw [if_neg (show ¬ ((Int32.ofInt 1) = 0) from by decide)] at k
        have k := ly_revb 5 (c' := (if (Int32.ofInt 1) = 0 then 12 else 59, [(1, .int (Int32.ofInt 1)), (2, .int (s9)), (0, .ref B)], [], me_w M (nt_u J2 B 15 (nI z2.1)))) rfl k
        rw [if_neg (show ¬ ((Int32.ofInt 1) = 0) from by decide)] at k
        have k := ly_revb 2 (c' := (63, [(1, .int (Int32.ofInt 1)), (2, .int (s9)), (0, .ref B)], [.long (6385252), .ref B], me_w M (nt_u J2 B 15 (nI z2.1)))) rfl k
        obtain ⟨d1, o1, ed, kc, k⟩ := lz_c (g := 137) (q := 1) (vs := [.ref B, .long (6385252)]) (rest := []) rfl rfl (by decide) (Or.inr (Or.inl ⟨_, rfl, rfl⟩)) rfl k
        obtain ⟨r, e1, hr⟩ := md_isWord (md_TP hP hO hT3) hT3.1 hp2 kc
        rw [hs2, me_uu] at e1
        rw [hs2] at hr
        subst e1
        rw [lb_w_and] at hr
        rcases hr with ⟨rfl, g16b⟩ | ⟨rfl, g16b⟩
        · have k : nt_rn X _ 158 (66, [(1, .int (Int32.ofInt 1)), (2, .int (s9)), (0, .ref B)], [.int (Int32.ofInt 1)], me_w M (nt_u J2 B 15 (nI z2.1))) _ := k
          have k := ly_revb 1 (c' := (if (Int32.ofInt 1) = 0 then 74 else 69, [(1, .int (Int32.ofInt 1)), (2, .int (s9)), (0, .ref B)], [], me_w M (nt_u J2 B 15 (nI z2.1)))) rfl k
          rw [if_neg (show ¬ ((Int32.ofInt 1) = 0) from by decide)] at k
          have k := ly_revb 4 (c' := (78, [(2, .int (Int32.ofInt 12)), (1, .int (Int32.ofInt 1)), (0, .ref B)], [.ref B], me_w M (nt_u J2 B 15 (nI z2.1)))) rfl k
          obtain ⟨d1, o1, ed, kc, k⟩ := lz_c (g := 142) (q := 1) (vs := [.ref B]) (rest := []) rfl rfl (by decide) (Or.inr (Or.inl ⟨_, rfl, rfl⟩)) rfl k
          have e1 := md_pass (md_TP hP hO hT3) hT3.1 hp2 kc
          rw [lb_at_l g16] at e1
          subst e1
          have hT4 := md_Tup hP hO hT3 (md_Sq (y := z2.1 + (lb_W (nt_sp + 1 + 16)).length) (md_TP hP hO hT3) hT3.1)
          have hp4 : z2.1 + (lb_W (nt_sp + 1 + 16)).length ≤ t := g16.1
          have k : nt_rn X _ 158 (81, [(2, .int (Int32.ofInt 12)), (1, .int (Int32.ofInt 1)), (0, .ref B)], [], me_w M (nt_u (nt_u J2 B 15 (nI z2.1)) B 15 (nI (z2.1 + (lb_W (nt_sp + 1 + 16)).length)))) _ := k
          have k := ly_revb 2 (c' := (83, [(2, .int (Int32.ofInt 12)), (1, .int (Int32.ofInt 1)), (0, .ref B)], [.int (Int32.ofInt 12), .ref B], me_w M (nt_u (nt_u J2 B 15 (nI z2.1)) B 15 (nI (z2.1 + (lb_W (nt_sp + 1 + 16)).length))))) rfl k
          obtain ⟨d1, o1, ed, kc, k⟩ := lz_c (g := 164) (q := 0) (vs := [.int (Int32.ofInt 12)]) (rest := [.ref B]) rfl rfl (by decide) (Or.inl ⟨_, rfl, rfl⟩) rfl k
          have e1 := md_strength kc
          rw [show lb_sg (Int32.ofInt 12) = 2 from by decide] at e1
          subst e1
          have k : nt_rn X _ 158 (86, [(2, .int (Int32.ofInt 12)), (1, .int (Int32.ofInt 1)), (0, .ref B)], [.int (nI 2), .ref B], me_w M (nt_u (nt_u J2 B 15 (nI z2.1)) B 15 (nI (z2.1 + (lb_W (nt_sp + 1 + 16)).length)))) _ := k
          obtain ⟨d1, o1, ed, kc, k⟩ := lz_c (g := 163) (q := 1) (vs := [.ref B, .int (nI 2)]) (rest := []) rfl rfl (by decide) (Or.inr (Or.inl ⟨_, rfl, rfl⟩)) rfl k
          obtain ⟨J5, e1, hT5⟩ := md_settles (l := 2) hP hO (by decide) hp4 S2 dd2 z2.2.2 _ hT4 kc
          subst e1
          have s5 : (lb_st 2 S2 dd2 z2.2.2).2.1.length ≤ 400 := hT5.2.2.2.2.2
          have k : nt_rn X _ 158 (89, [(2, .int (Int32.ofInt 12)), (1, .int (Int32.ofInt 1)), (0, .ref B)], [], me_w M J5) _ := k
          have k := ly_revb 1 (c' := (90, [(2, .int (Int32.ofInt 12)), (1, .int (Int32.ofInt 1)), (0, .ref B)], [.ref B], me_w M J5)) rfl k
          have k := lz_get (a := B) (g := 1122) (M := me_w M J5) (v := .ref Op) rfl (nt_gfR rfl hO.1) k
          have k := ly_revb 1 (c' := (94, [(2, .int (Int32.ofInt 12)), (1, .int (Int32.ofInt 1)), (0, .ref B)], [.ref B, .ref Op], me_w M J5)) rfl k
          have k := lz_get (a := B) (g := 1123) (M := me_w M J5) (v := .int (nI ((lb_st 2 S2 dd2 z2.2.2).2.1.length))) rfl (congrArg Value.int (hT5.2.2.2.1)) k
          have k := ly_revb 1 (c' := (98, [(2, .int (Int32.ofInt 12)), (1, .int (Int32.ofInt 1)), (0, .ref B)], [.int (Int32.ofInt 12), .int (nI ((lb_st 2 S2 dd2 z2.2.2).2.1.length)), .ref Op], me_w M J5)) rfl k
          have hb : ((lb_st 2 S2 dd2 z2.2.2).2.1.length) < nt_l M Op := me_iastb (q := ((lb_st 2 S2 dd2 z2.2.2).2.1.length)) rfl rfl (by omega) k
          rw [hO.2.2.1] at hb
          have k := me_iast (q := ((lb_st 2 S2 dd2 z2.2.2).2.1.length)) rfl (rfl) (by omega) k
          have k := ly_revb 2 (c' := (101, [(2, .int (Int32.ofInt 12)), (1, .int (Int32.ofInt 1)), (0, .ref B)], [.ref B, .ref B], me_w M (nt_u J5 Op (((lb_st 2 S2 dd2 z2.2.2).2.1.length)) (Int32.ofInt 12)))) rfl k
          have k := lz_get (a := B) (g := 1123) (M := me_w M (nt_u J5 Op (((lb_st 2 S2 dd2 z2.2.2).2.1.length)) (Int32.ofInt 12))) (v := .int (nI ((lb_st 2 S2 dd2 z2.2.2).2.1.length))) rfl (congrArg Value.int ((me_uj (Ne.symm (hO.2.1.1))).trans (hT5.2.2.2.1))) k
          have k := ly_revb 2 (c' := (106, [(2, .int (Int32.ofInt 12)), (1, .int (Int32.ofInt 1)), (0, .ref B)], [.int ((nI ((lb_st 2 S2 dd2 z2.2.2).2.1.length)) + (Int32.ofInt 1)), .ref B], me_w M (nt_u J5 Op (((lb_st 2 S2 dd2 z2.2.2).2.1.length)) (Int32.ofInt 12)))) rfl k
          rw [show ((nI ((lb_st 2 S2 dd2 z2.2.2).2.1.length)) + (Int32.ofInt 1) : Int32) = nI (((lb_st 2 S2 dd2 z2.2.2).2.1.length) + 1) from me_add (k := 1)] at k
          have k := me_put rfl (by decide) k
          have k : nt_rn X _ 158 (109, [(2, .int (Int32.ofInt 12)), (1, .int (Int32.ofInt 1)), (0, .ref B)], [], me_w M (nt_u (nt_u J5 Op (((lb_st 2 S2 dd2 z2.2.2).2.1.length)) (Int32.ofInt 12)) B 23 (nI (((lb_st 2 S2 dd2 z2.2.2).2.1.length) + 1)))) _ := k
          have k := ly_revb 1 (c' := (12, [(2, .int (Int32.ofInt 12)), (1, .int (Int32.ofInt 1)), (0, .ref B)], [], me_w M (nt_u (nt_u J5 Op (((lb_st 2 S2 dd2 z2.2.2).2.1.length)) (Int32.ofInt 12)) B 23 (nI (((lb_st 2 S2 dd2 z2.2.2).2.1.length) + 1))))) rfl k
          have hT6 := md_Tpush (y := Int32.ofInt 12) hP hO hT5 hb
          have wl := lb_Wp 16 (by decide)
          have hsl := lb_s_le (f := f) (t := t) (t - (z2.1 + (lb_W (nt_sp + 1 + 16)).length)) (z2.1 + (lb_W (nt_sp + 1 + 16)).length) (by omega)
          dsimp only at hlt1
          obtain ⟨r, a, J9, e9, ⟨k1, hk⟩, hQ⟩ := ih _ _ (lb_st 2 S2 dd2 z2.2.2).2.2 _ _ _ _ (by omega) hT6 hp4 k
          exact ⟨r, a, J9, e9, hr1 r (hr2 r ⟨k1 + 1, Or.inl ⟨g16, hk⟩⟩), hQ⟩
        · exact absurd g16 g16b
      · have k : nt_rn X _ 158 (36, [(2, .int (s9)), (1, .int (Int32.ofInt 1)), (0, .ref B)], [.int (Int32.ofInt 0)], me_w M (nt_u J2 B 15 (nI z2.1))) _ := k
        have k := ly_revb 1 (c' := (if (Int32.ofInt 0) = 0 then 39 else 49, [(2, .int (s9)), (1, .int (Int32.ofInt 1)), (0, .ref B)], [], me_w M (nt_u J2 B 15 (nI z2.1)))) rfl k
        rw [if_pos (show (Int32.ofInt 0) = 0 from by decide)] at k
        have k := ly_revb 2 (c' := (43, [(2, .int (s9)), (1, .int (Int32.ofInt 1)), (0, .ref B)], [.long (28530), .ref B], me_w M (nt_u J2 B 15 (nI z2.1)))) rfl k
        obtain ⟨d1, o1, ed, kc, k⟩ := lz_c (g := 137) (q := 1) (vs := [.ref B, .long (28530)]) (rest := []) rfl rfl (by decide) (Or.inr (Or.inl ⟨_, rfl, rfl⟩)) rfl k
        obtain ⟨r, e1, hr⟩ := md_isWord (md_TP hP hO hT3) hT3.1 hp2 kc
        rw [hs2, me_uu] at e1
        rw [hs2] at hr
        subst e1
        rw [lb_w_or] at hr
        rcases hr with ⟨rfl, g17⟩ | ⟨rfl, g17⟩
        · have k : nt_rn X _ 158 (46, [(2, .int (s9)), (1, .int (Int32.ofInt 1)), (0, .ref B)], [.int (Int32.ofInt 1)], me_w M (nt_u J2 B 15 (nI z2.1))) _ := k
          have k := ly_revb 1 (c' := (if (Int32.ofInt 1) = 0 then 53 else 49, [(2, .int (s9)), (1, .int (Int32.ofInt 1)), (0, .ref B)], [], me_w M (nt_u J2 B 15 (nI z2.1)))) rfl k
          rw [if_neg (show ¬ ((Int32.ofInt 1) = 0) from by decide)] at k
          have k := ly_revb 5 (c' := (if (Int32.ofInt 1) = 0 then 12 else 59, [(1, .int (Int32.ofInt 1)), (2, .int (s9)), (0, .ref B)], [], me_w M (nt_u J2 B 15 (nI z2.1)))) rfl k
          rw [if_neg (show ¬ ((Int32.ofInt 1) = 0) from by decide)] at k
          have k := ly_revb 2 (c' := (63, [(1, .int (Int32.ofInt 1)), (2, .int (s9)), (0, .ref B)], [.long (6385252), .ref B], me_w M (nt_u J2 B 15 (nI z2.1)))) rfl k
          obtain ⟨d1, o1, ed, kc, k⟩ := lz_c (g := 137) (q := 1) (vs := [.ref B, .long (6385252)]) (rest := []) rfl rfl (by decide) (Or.inr (Or.inl ⟨_, rfl, rfl⟩)) rfl k
          obtain ⟨r, e1, hr⟩ := md_isWord (md_TP hP hO hT3) hT3.1 hp2 kc
          rw [hs2, me_uu] at e1
          rw [hs2] at hr
          subst e1
          rw [lb_w_and] at hr
          rcases hr with ⟨rfl, g16b⟩ | ⟨rfl, g16b⟩
          · exact absurd g16b g16
          · have k : nt_rn X _ 158 (66, [(1, .int (Int32.ofInt 1)), (2, .int (s9)), (0, .ref B)], [.int (Int32.ofInt 0)], me_w M (nt_u J2 B 15 (nI z2.1))) _ := k
            have k := ly_revb 1 (c' := (if (Int32.ofInt 0) = 0 then 74 else 69, [(1, .int (Int32.ofInt 1)), (2, .int (s9)), (0, .ref B)], [], me_w M (nt_u J2 B 15 (nI z2.1)))) rfl k
            rw [if_pos (show (Int32.ofInt 0) = 0 from by decide)] at k
            have k := ly_revb 3 (c' := (78, [(2, .int (Int32.ofInt 13)), (1, .int (Int32.ofInt 1)), (0, .ref B)], [.ref B], me_w M (nt_u J2 B 15 (nI z2.1)))) rfl k
            obtain ⟨d1, o1, ed, kc, k⟩ := lz_c (g := 142) (q := 1) (vs := [.ref B]) (rest := []) rfl rfl (by decide) (Or.inr (Or.inl ⟨_, rfl, rfl⟩)) rfl k
            have e1 := md_pass (md_TP hP hO hT3) hT3.1 hp2 kc
            rw [lb_at_l g17] at e1
            subst e1
            have hT4 := md_Tup hP hO hT3 (md_Sq (y := z2.1 + (lb_W (nt_sp + 1 + 17)).length) (md_TP hP hO hT3) hT3.1)
            have hp4 : z2.1 + (lb_W (nt_sp + 1 + 17)).length ≤ t := g17.1
            have k : nt_rn X _ 158 (81, [(2, .int (Int32.ofInt 13)), (1, .int (Int32.ofInt 1)), (0, .ref B)], [], me_w M (nt_u (nt_u J2 B 15 (nI z2.1)) B 15 (nI (z2.1 + (lb_W (nt_sp + 1 + 17)).length)))) _ := k
            have k := ly_revb 2 (c' := (83, [(2, .int (Int32.ofInt 13)), (1, .int (Int32.ofInt 1)), (0, .ref B)], [.int (Int32.ofInt 13), .ref B], me_w M (nt_u (nt_u J2 B 15 (nI z2.1)) B 15 (nI (z2.1 + (lb_W (nt_sp + 1 + 17)).length))))) rfl k
            obtain ⟨d1, o1, ed, kc, k⟩ := lz_c (g := 164) (q := 0) (vs := [.int (Int32.ofInt 13)]) (rest := [.ref B]) rfl rfl (by decide) (Or.inl ⟨_, rfl, rfl⟩) rfl k
            have e1 := md_strength kc
            rw [show lb_sg (Int32.ofInt 13) = 1 from by decide] at e1
            subst e1
            have k : nt_rn X _ 158 (86, [(2, .int (Int32.ofInt 13)), (1, .int (Int32.ofInt 1)), (0, .ref B)], [.int (nI 1), .ref B], me_w M (nt_u (nt_u J2 B 15 (nI z2.1)) B 15 (nI (z2.1 + (lb_W (nt_sp + 1 + 17)).length)))) _ := k
            obtain ⟨d1, o1, ed, kc, k⟩ := lz_c (g := 163) (q := 1) (vs := [.ref B, .int (nI 1)]) (rest := []) rfl rfl (by decide) (Or.inr (Or.inl ⟨_, rfl, rfl⟩)) rfl k
            obtain ⟨J5, e1, hT5⟩ := md_settles (l := 1) hP hO (by decide) hp4 S2 dd2 z2.2.2 _ hT4 kc
            subst e1
            have s5 : (lb_st 1 S2 dd2 z2.2.2).2.1.length ≤ 400 := hT5.2.2.2.2.2
            have k : nt_rn X _ 158 (89, [(2, .int (Int32.ofInt 13)), (1, .int (Int32.ofInt 1)), (0, .ref B)], [], me_w M J5) _ := k
            have k := ly_revb 1 (c' := (90, [(2, .int (Int32.ofInt 13)), (1, .int (Int32.ofInt 1)), (0, .ref B)], [.ref B], me_w M J5)) rfl k
            have k := lz_get (a := B) (g := 1122) (M := me_w M J5) (v := .ref Op) rfl (nt_gfR rfl hO.1) k
            have k := ly_revb 1 (c' := (94, [(2, .int (Int32.ofInt 13)), (1, .int (Int32.ofInt 1)), (0, .ref B)], [.ref B, .ref Op], me_w M J5)) rfl k
            have k := lz_get (a := B) (g := 1123) (M := me_w M J5) (v := .int (nI ((lb_st 1 S2 dd2 z2.2.2).2.1.length))) rfl (congrArg Value.int (hT5.2.2.2.1)) k
            have k := ly_revb 1 (c' := (98, [(2, .int (Int32.ofInt 13)), (1, .int (Int32.ofInt 1)), (0, .ref B)], [.int (Int32.ofInt 13), .int (nI ((lb_st 1 S2 dd2 z2.2.2).2.1.length)), .ref Op], me_w M J5)) rfl k
            have hb : ((lb_st 1 S2 dd2 z2.2.2).2.1.length) < nt_l M Op := me_iastb (q := ((lb_st 1 S2 dd2 z2.2.2).2.1.length)) rfl rfl (by omega) k
            rw [hO.2.2.1] at hb
            have k := me_iast (q := ((lb_st 1 S2 dd2 z2.2.2).2.1.length)) rfl (rfl) (by omega) k
            have k := ly_revb 2 (c' := (101, [(2, .int (Int32.ofInt 13)), (1, .int (Int32.ofInt 1)), (0, .ref B)], [.ref B, .ref B], me_w M (nt_u J5 Op (((lb_st 1 S2 dd2 z2.2.2).2.1.length)) (Int32.ofInt 13)))) rfl k
            have k := lz_get (a := B) (g := 1123) (M := me_w M (nt_u J5 Op (((lb_st 1 S2 dd2 z2.2.2).2.1.length)) (Int32.ofInt 13))) (v := .int (nI ((lb_st 1 S2 dd2 z2.2.2).2.1.length))) rfl (congrArg Value.int ((me_uj (Ne.symm (hO.2.1.1))).trans (hT5.2.2.2.1))) k
            have k := ly_revb 2 (c' := (106, [(2, .int (Int32.ofInt 13)), (1, .int (Int32.ofInt 1)), (0, .ref B)], [.int ((nI ((lb_st 1 S2 dd2 z2.2.2).2.1.length)) + (Int32.ofInt 1)), .ref B], me_w M (nt_u J5 Op (((lb_st 1 S2 dd2 z2.2.2).2.1.length)) (Int32.ofInt 13)))) rfl k
            rw [show ((nI ((lb_st 1 S2 dd2 z2.2.2).2.1.length)) + (Int32.ofInt 1) : Int32) = nI (((lb_st 1 S2 dd2 z2.2.2).2.1.length) + 1) from me_add (k := 1)] at k
            have k := me_put rfl (by decide) k
            have k : nt_rn X _ 158 (109, [(2, .int (Int32.ofInt 13)), (1, .int (Int32.ofInt 1)), (0, .ref B)], [], me_w M (nt_u (nt_u J5 Op (((lb_st 1 S2 dd2 z2.2.2).2.1.length)) (Int32.ofInt 13)) B 23 (nI (((lb_st 1 S2 dd2 z2.2.2).2.1.length) + 1)))) _ := k
            have k := ly_revb 1 (c' := (12, [(2, .int (Int32.ofInt 13)), (1, .int (Int32.ofInt 1)), (0, .ref B)], [], me_w M (nt_u (nt_u J5 Op (((lb_st 1 S2 dd2 z2.2.2).2.1.length)) (Int32.ofInt 13)) B 23 (nI (((lb_st 1 S2 dd2 z2.2.2).2.1.length) + 1))))) rfl k
            have hT6 := md_Tpush (y := Int32.ofInt 13) hP hO hT5 hb
            have wl := lb_Wp 17 (by decide)
            have hsl := lb_s_le (f := f) (t := t) (t - (z2.1 + (lb_W (nt_sp + 1 + 17)).length)) (z2.1 + (lb_W (nt_sp + 1 + 17)).length) (by omega)
            dsimp only at hlt1
            obtain ⟨r, a, J9, e9, ⟨k1, hk⟩, hQ⟩ := ih _ _ (lb_st 1 S2 dd2 z2.2.2).2.2 _ _ _ _ (by omega) hT6 hp4 k
            exact ⟨r, a, J9, e9, hr1 r (hr2 r ⟨k1 + 1, Or.inr (Or.inl ⟨g16, g17, hk⟩)⟩), hQ⟩
        · have k : nt_rn X _ 158 (46, [(2, .int (s9)), (1, .int (Int32.ofInt 1)), (0, .ref B)], [.int (Int32.ofInt 0)], me_w M (nt_u J2 B 15 (nI z2.1))) _ := k
          have k := ly_revb 1 (c' := (if (Int32.ofInt 0) = 0 then 53 else 49, [(2, .int (s9)), (1, .int (Int32.ofInt 1)), (0, .ref B)], [], me_w M (nt_u J2 B 15 (nI z2.1)))) rfl k
          rw [if_pos (show (Int32.ofInt 0) = 0 from by decide)] at k
          have k := ly_revb 4 (c' := (if (Int32.ofInt 0) = 0 then 12 else 59, [(1, .int (Int32.ofInt 0)), (2, .int (s9)), (0, .ref B)], [], me_w M (nt_u J2 B 15 (nI z2.1)))) rfl k
          rw [if_pos (show (Int32.ofInt 0) = 0 from by decide)] at k
          have k := ly_revb 2 (c' := (if (Int32.ofInt 0) = 0 then 112 else 16, [(1, .int (Int32.ofInt 0)), (2, .int (s9)), (0, .ref B)], [], me_w M (nt_u J2 B 15 (nI z2.1)))) rfl k
          rw [if_pos (show (Int32.ofInt 0) = 0 from by decide)] at k
          have k := ly_revb 1 (c' := (113, [(1, .int (Int32.ofInt 0)), (2, .int (s9)), (0, .ref B)], [.ref B], me_w M (nt_u J2 B 15 (nI z2.1)))) rfl k
          obtain ⟨d1, o1, ed, kc, k⟩ := lz_c (g := 165) (q := 1) (vs := [.ref B]) (rest := []) rfl rfl (by decide) (Or.inr (Or.inl ⟨_, rfl, rfl⟩)) rfl k
          obtain ⟨r, e1, hin⟩ := md_inside hP hO hT3 kc
          subst e1
          rcases hin with ⟨rfl, hin⟩ | ⟨rfl, hin⟩
          · have k : nt_rn X _ 158 (116, [(1, .int (Int32.ofInt 0)), (2, .int (s9)), (0, .ref B)], [.int (Int32.ofInt 1)], me_w M (nt_u J2 B 15 (nI z2.1))) _ := k
            have k := ly_revb 1 (c' := (if (Int32.ofInt 1) = 0 then 134 else 119, [(1, .int (Int32.ofInt 0)), (2, .int (s9)), (0, .ref B)], [], me_w M (nt_u J2 B 15 (nI z2.1)))) rfl k
            rw [if_neg (show ¬ ((Int32.ofInt 1) = 0) from by decide)] at k
            have k := ly_revb 1 (c' := (120, [(1, .int (Int32.ofInt 0)), (2, .int (s9)), (0, .ref B)], [.ref B], me_w M (nt_u J2 B 15 (nI z2.1)))) rfl k
            obtain ⟨d1, o1, ed, kc, k⟩ := lz_c (g := 136) (q := 1) (vs := [.ref B]) (rest := []) rfl rfl (by decide) (Or.inr (Or.inl ⟨_, rfl, rfl⟩)) rfl k
            have e1 := md_see (md_TP hP hO hT3) hT3.1 hp2 kc
            rw [hs2, me_uu] at e1
            subst e1
            have k : nt_rn X _ 158 (123, [(1, .int (Int32.ofInt 0)), (2, .int (s9)), (0, .ref B)], [.int (lb_g f t z2.1)], me_w M (nt_u J2 B 15 (nI z2.1))) _ := k
            have k := ly_revb 4 (c' := (127, [(1, .int (Int32.ofInt 0)), (2, .int (s9)), (0, .ref B)], [.ref B, .int (Int32.ofInt 0), .ref B], me_w M (nt_u J2 B 15 (nI z2.1)))) rfl k
            have k := lz_get (a := B) (g := 1115) (M := me_w M (nt_u J2 B 15 (nI z2.1))) (v := .int (nI z2.1)) rfl (congrArg Value.int (hT3.1.1)) k
            obtain ⟨d1, o1, ed, kc, k⟩ := lz_c (g := 139) (q := 1) (vs := [.ref B, .int (Int32.ofInt 0), .int (nI z2.1)]) (rest := []) rfl rfl (by decide) (Or.inr (Or.inl ⟨_, rfl, rfl⟩)) rfl k
            obtain ⟨hf, e1⟩ := (md_fails (a := z2.1) (md_TP hP hO hT3) hT3.1 hp2 kc).resolve_right (fun c => c.1 rfl)
            subst e1
            have hT9 := md_Tup hP hO hT3 (md_Sw (y := lb_c z2.1 (Int32.ofInt 0)) (md_TP hP hO hT3) hT3.1)
            have k : nt_rn X _ 158 (133, [(1, .int (Int32.ofInt 0)), (2, .int (s9)), (0, .ref B)], [.int (Int32.ofInt 0)], me_w M (nt_u (nt_u J2 B 15 (nI z2.1)) B 16 (lb_c z2.1 (Int32.ofInt 0)))) _ := k
            have k := lz_ri rfl (by decide) k
            exact ⟨.inl (lb_c z2.1 (Int32.ofInt 0)), _, _, k, hr1 _ (hr2 _ ⟨1, Or.inr (Or.inr (Or.inl ⟨g16, g17, hin, rfl⟩))⟩), (lb_c_ne (by omega) (by decide) (by decide)), rfl, _, _, _, _, _, hT9, hp2⟩
          · have k : nt_rn X _ 158 (116, [(1, .int (Int32.ofInt 0)), (2, .int (s9)), (0, .ref B)], [.int (Int32.ofInt 0)], me_w M (nt_u J2 B 15 (nI z2.1))) _ := k
            have k := ly_revb 1 (c' := (if (Int32.ofInt 0) = 0 then 134 else 119, [(1, .int (Int32.ofInt 0)), (2, .int (s9)), (0, .ref B)], [], me_w M (nt_u J2 B 15 (nI z2.1)))) rfl k
            rw [if_pos (show (Int32.ofInt 0) = 0 from by decide)] at k
            have k := ly_revb 2 (c' := (136, [(1, .int (Int32.ofInt 0)), (2, .int (s9)), (0, .ref B)], [.int (Int32.ofInt 1), .ref B], me_w M (nt_u J2 B 15 (nI z2.1)))) rfl k
            obtain ⟨d1, o1, ed, kc, k⟩ := lz_c (g := 163) (q := 1) (vs := [.ref B, .int (Int32.ofInt 1)]) (rest := []) rfl rfl (by decide) (Or.inr (Or.inl ⟨_, rfl, rfl⟩)) rfl k
            obtain ⟨J5, e1, hT5⟩ := md_settles (l := 1) hP hO (by decide) hp2 S2 dd2 z2.2.2 _ hT3 kc
            subst e1
            have s5 : (lb_st 1 S2 dd2 z2.2.2).2.1.length ≤ 400 := hT5.2.2.2.2.2
            have k : nt_rn X _ 158 (139, [(1, .int (Int32.ofInt 0)), (2, .int (s9)), (0, .ref B)], [], me_w M J5) _ := k
            have k := ly_revb 1 (c' := (140, [(1, .int (Int32.ofInt 0)), (2, .int (s9)), (0, .ref B)], [.int (Int32.ofInt 1)], me_w M J5)) rfl k
            have k := lz_ri rfl (by decide) k
            exact ⟨.inr (z2.1, z2.2.1, (lb_st 1 S2 dd2 z2.2.2).2.2), _, _, k, hr1 _ (hr2 _ ⟨1, Or.inr (Or.inr (Or.inr ⟨g16, g17, hin, rfl⟩))⟩), rfl, _, _, _, hs2, hp2, hT5⟩
theorem md_tested {X : nt_X} {d t x B Tb Sg Ln Op q m : Nat} {f : Nat → Int32} {M : nt_M} {J0 J : Nat → Nat → Int32} {o : Option Value × nt_M} {e : lb_E} (hP : md_P M J0 f t x B Tb Sg Ln) (hO : md_O M B Tb Sg Ln Op) (hB : lb_by f t) (hS : md_S J0 B Sg Ln x q 0 m e.2 J) (hp : q ≤ t) (k : nt_ev X d 158 [.ref B] (me_w M J) o) : ∃ r a J', o = (some (.int a), me_w M J') ∧ (∃ k, lb_ma f t k 0 (Int32.ofInt 0) [] (lb_s f t q, m, e) r) ∧ md_QT J0 B Sg Ln Op x t f r a J' := by
  have k : nt_rn X d 158 (0, [(0, .ref B)], [], me_w M J) o := k
  have t4 : t ≤ 400 := hP.2.2.2.2.2.1
  have k := ly_revb 2 (c' := (2, [(0, .ref B)], [.int (Int32.ofInt 0), .ref B], me_w M J)) rfl k
  have k := me_put rfl (by decide) k
  have k : nt_rn X _ 158 (5, [(0, .ref B)], [], me_w M (nt_u J B 23 (Int32.ofInt 0))) _ := k
  have k := ly_revb 2 (c' := (7, [(0, .ref B)], [.int (Int32.ofInt 0), .ref B], me_w M (nt_u J B 23 (Int32.ofInt 0)))) rfl k
  have k := me_put rfl (by decide) k
  have k : nt_rn X _ 158 (10, [(0, .ref B)], [], me_w M (nt_u (nt_u J B 23 (Int32.ofInt 0)) B 20 (Int32.ofInt 0))) _ := k
  have k := ly_revb 2 (c' := (12, [(1, .int (Int32.ofInt 1)), (0, .ref B)], [], me_w M (nt_u (nt_u J B 23 (Int32.ofInt 0)) B 20 (Int32.ofInt 0)))) rfl k
  have hT := md_T0 hP hO hS
  have k := ly_revb 2 (c' := (if (Int32.ofInt 1) = 0 then 112 else 16, [(1, .int (Int32.ofInt 1)), (0, .ref B)], [], me_w M (nt_u (nt_u J B 23 (Int32.ofInt 0)) B 20 (Int32.ofInt 0)))) rfl k
  rw [if_neg (show ¬ ((Int32.ofInt 1) = 0) from by decide)] at k
  have k := ly_revb 1 (c' := (17, [(1, .int (Int32.ofInt 1)), (0, .ref B)], [.ref B], me_w M (nt_u (nt_u J B 23 (Int32.ofInt 0)) B 20 (Int32.ofInt 0)))) rfl k
  obtain ⟨d1, o1, ed, kc, k⟩ := lz_c (g := 159) (q := 1) (vs := [.ref B]) (rest := []) rfl rfl (by decide) (Or.inr (Or.inl ⟨_, rfl, rfl⟩)) rfl k
  obtain ⟨a1, J1, e1, hF⟩ := md_fact (s0 := e.1) hP hO hB hT hp kc
  subst e1
  rcases hF with ⟨rfl, c, q1, m1, e1, dd1, S1, hc, hT1, hq1, hk1⟩ | ⟨rfl, z1, q1, dd1, S1, hz1, hq1, hlt1, hT1, hr1⟩
  · have k : nt_rn X _ 158 (20, [(1, .int (Int32.ofInt 1)), (0, .ref B)], [.int (Int32.ofInt 0)], me_w M J1) _ := k
    have k := ly_revb 1 (c' := (if (Int32.ofInt 0) = 0 then 23 else 25, [(1, .int (Int32.ofInt 1)), (0, .ref B)], [], me_w M J1)) rfl k
    rw [if_pos (show (Int32.ofInt 0) = 0 from by decide)] at k
    have k := ly_revb 1 (c' := (24, [(1, .int (Int32.ofInt 1)), (0, .ref B)], [.int (Int32.ofInt 0)], me_w M J1)) rfl k
    have k := lz_ri rfl (by decide) k
    exact ⟨.inl c, _, _, k, hk1, hc, rfl, _, _, _, _, _, hT1, hq1⟩
  · have k : nt_rn X _ 158 (20, [(1, .int (Int32.ofInt 1)), (0, .ref B)], [.int (Int32.ofInt 1)], me_w M J1) _ := k
    have k := ly_revb 1 (c' := (if (Int32.ofInt 1) = 0 then 23 else 25, [(1, .int (Int32.ofInt 1)), (0, .ref B)], [], me_w M J1)) rfl k
    rw [if_neg (show ¬ ((Int32.ofInt 1) = 0) from by decide)] at k
    have k := ly_revb 1 (c' := (26, [(1, .int (Int32.ofInt 1)), (0, .ref B)], [.ref B], me_w M J1)) rfl k
    obtain ⟨d1, o1, ed, kc, k⟩ := lz_c (g := 162) (q := 1) (vs := [.ref B]) (rest := []) rfl rfl (by decide) (Or.inr (Or.inl ⟨_, rfl, rfl⟩)) rfl k
    obtain ⟨J2, z2, q2, dd2, S2, e1, hz2, hq2, hle2, hT2, hr2⟩ := md_closes (e := z1.2.2) hP hO hT1 hq1 kc
    subst e1
    rw [show (lb_s f t q1, z1.2.1, z1.2.2) = z1 from by rw [hz1]] at hr2
    rw [hz1] at hle2
    have hp2 : z2.1 ≤ t := by rw [← hz2]; exact (lb_s_le (t - q2) q2 (by omega)).2
    have hs2 : lb_s f t z2.1 = z2.1 := by rw [← hz2]; exact lb_ss hq2
    have k : nt_rn X _ 158 (29, [(1, .int (Int32.ofInt 1)), (0, .ref B)], [], me_w M J2) _ := k
    have k := ly_revb 2 (c' := (33, [(1, .int (Int32.ofInt 1)), (0, .ref B)], [.long (6385252), .ref B], me_w M J2)) rfl k
    obtain ⟨d1, o1, ed, kc, k⟩ := lz_c (g := 137) (q := 1) (vs := [.ref B, .long (6385252)]) (rest := []) rfl rfl (by decide) (Or.inr (Or.inl ⟨_, rfl, rfl⟩)) rfl k
    obtain ⟨r, e1, hr⟩ := md_isWord (md_TP hP hO hT2) hT2.1 hq2 kc
    rw [hz2] at e1
    rw [hz2] at hr
    have hT3 := md_Tup hP hO hT2 (md_Sq (y := z2.1) (md_TP hP hO hT2) hT2.1)
    subst e1
    rw [lb_w_and] at hr
    rcases hr with ⟨rfl, g16⟩ | ⟨rfl, g16⟩
    · have k : nt_rn X _ 158 (36, [(1, .int (Int32.ofInt 1)), (0, .ref B)], [.int (Int32.ofInt 1)], me_w M (nt_u J2 B 15 (nI z2.1))) _ := k
      have k := ly_revb 1 (c' := (if (Int32.ofInt 1) = 0 then 39 else 49, [(1, .int (Int32.ofInt 1)), (0, .ref B)], [], me_w M (nt_u J2 B 15 (nI z2.1)))) rfl k
      rw [if_neg (show ¬ ((Int32.ofInt 1) = 0) from by decide)] at k
      have k := ly_revb 5 (c' := (if (Int32.ofInt 1) = 0 then 12 else 59, [(1, .int (Int32.ofInt 1)), (0, .ref B)], [], me_w M (nt_u J2 B 15 (nI z2.1)))) rfl k
      rw [if_neg (show ¬ ((Int32.ofInt 1) = 0) from by decide)] at k
      have k := ly_revb 2 (c' := (63, [(1, .int (Int32.ofInt 1)), (0, .ref B)], [.long (6385252), .ref B], me_w M (nt_u J2 B 15 (nI z2.1)))) rfl k
      obtain ⟨d1, o1, ed, kc, k⟩ := lz_c (g := 137) (q := 1) (vs := [.ref B, .long (6385252)]) (rest := []) rfl rfl (by decide) (Or.inr (Or.inl ⟨_, rfl, rfl⟩)) rfl k
      obtain ⟨r, e1, hr⟩ := md_isWord (md_TP hP hO hT3) hT3.1 hp2 kc
      rw [hs2, me_uu] at e1
      rw [hs2] at hr
      subst e1
      rw [lb_w_and] at hr
      rcases hr with ⟨rfl, g16b⟩ | ⟨rfl, g16b⟩
      · have k : nt_rn X _ 158 (66, [(1, .int (Int32.ofInt 1)), (0, .ref B)], [.int (Int32.ofInt 1)], me_w M (nt_u J2 B 15 (nI z2.1))) _ := k
        have k := ly_revb 1 (c' := (if (Int32.ofInt 1) = 0 then 74 else 69, [(1, .int (Int32.ofInt 1)), (0, .ref B)], [], me_w M (nt_u J2 B 15 (nI z2.1)))) rfl k
        rw [if_neg (show ¬ ((Int32.ofInt 1) = 0) from by decide)] at k
        have k := ly_revb 4 (c' := (78, [(2, .int (Int32.ofInt 12)), (1, .int (Int32.ofInt 1)), (0, .ref B)], [.ref B], me_w M (nt_u J2 B 15 (nI z2.1)))) rfl k
        obtain ⟨d1, o1, ed, kc, k⟩ := lz_c (g := 142) (q := 1) (vs := [.ref B]) (rest := []) rfl rfl (by decide) (Or.inr (Or.inl ⟨_, rfl, rfl⟩)) rfl k
        have e1 := md_pass (md_TP hP hO hT3) hT3.1 hp2 kc
        rw [lb_at_l g16] at e1
        subst e1
        have hT4 := md_Tup hP hO hT3 (md_Sq (y := z2.1 + (lb_W (nt_sp + 1 + 16)).length) (md_TP hP hO hT3) hT3.1)
        have hp4 : z2.1 + (lb_W (nt_sp + 1 + 16)).length ≤ t := g16.1
        have k : nt_rn X _ 158 (81, [(2, .int (Int32.ofInt 12)), (1, .int (Int32.ofInt 1)), (0, .ref B)], [], me_w M (nt_u (nt_u J2 B 15 (nI z2.1)) B 15 (nI (z2.1 + (lb_W (nt_sp + 1 + 16)).length)))) _ := k
        have k := ly_revb 2 (c' := (83, [(2, .int (Int32.ofInt 12)), (1, .int (Int32.ofInt 1)), (0, .ref B)], [.int (Int32.ofInt 12), .ref B], me_w M (nt_u (nt_u J2 B 15 (nI z2.1)) B 15 (nI (z2.1 + (lb_W (nt_sp + 1 + 16)).length))))) rfl k
        obtain ⟨d1, o1, ed, kc, k⟩ := lz_c (g := 164) (q := 0) (vs := [.int (Int32.ofInt 12)]) (rest := [.ref B]) rfl rfl (by decide) (Or.inl ⟨_, rfl, rfl⟩) rfl k
        have e1 := md_strength kc
        rw [show lb_sg (Int32.ofInt 12) = 2 from by decide] at e1
        subst e1
        have k : nt_rn X _ 158 (86, [(2, .int (Int32.ofInt 12)), (1, .int (Int32.ofInt 1)), (0, .ref B)], [.int (nI 2), .ref B], me_w M (nt_u (nt_u J2 B 15 (nI z2.1)) B 15 (nI (z2.1 + (lb_W (nt_sp + 1 + 16)).length)))) _ := k
        obtain ⟨d1, o1, ed, kc, k⟩ := lz_c (g := 163) (q := 1) (vs := [.ref B, .int (nI 2)]) (rest := []) rfl rfl (by decide) (Or.inr (Or.inl ⟨_, rfl, rfl⟩)) rfl k
        obtain ⟨J5, e1, hT5⟩ := md_settles (l := 2) hP hO (by decide) hp4 S2 dd2 z2.2.2 _ hT4 kc
        subst e1
        have s5 : (lb_st 2 S2 dd2 z2.2.2).2.1.length ≤ 400 := hT5.2.2.2.2.2
        have k : nt_rn X _ 158 (89, [(2, .int (Int32.ofInt 12)), (1, .int (Int32.ofInt 1)), (0, .ref B)], [], me_w M J5) _ := k
        have k := ly_revb 1 (c' := (90, [(2, .int (Int32.ofInt 12)), (1, .int (Int32.ofInt 1)), (0, .ref B)], [.ref B], me_w M J5)) rfl k
        have k := lz_get (a := B) (g := 1122) (M := me_w M J5) (v := .ref Op) rfl (nt_gfR rfl hO.1) k
        have k := ly_revb 1 (c' := (94, [(2, .int (Int32.ofInt 12)), (1, .int (Int32.ofInt 1)), (0, .ref B)], [.ref B, .ref Op], me_w M J5)) rfl k
        have k := lz_get (a := B) (g := 1123) (M := me_w M J5) (v := .int (nI ((lb_st 2 S2 dd2 z2.2.2).2.1.length))) rfl (congrArg Value.int (hT5.2.2.2.1)) k
        have k := ly_revb 1 (c' := (98, [(2, .int (Int32.ofInt 12)), (1, .int (Int32.ofInt 1)), (0, .ref B)], [.int (Int32.ofInt 12), .int (nI ((lb_st 2 S2 dd2 z2.2.2).2.1.length)), .ref Op], me_w M J5)) rfl k
        have hb : ((lb_st 2 S2 dd2 z2.2.2).2.1.length) < nt_l M Op := me_iastb (q := ((lb_st 2 S2 dd2 z2.2.2).2.1.length)) rfl rfl (by omega) k
        rw [hO.2.2.1] at hb
        have k := me_iast (q := ((lb_st 2 S2 dd2 z2.2.2).2.1.length)) rfl (rfl) (by omega) k
        have k := ly_revb 2 (c' := (101, [(2, .int (Int32.ofInt 12)), (1, .int (Int32.ofInt 1)), (0, .ref B)], [.ref B, .ref B], me_w M (nt_u J5 Op (((lb_st 2 S2 dd2 z2.2.2).2.1.length)) (Int32.ofInt 12)))) rfl k
        have k := lz_get (a := B) (g := 1123) (M := me_w M (nt_u J5 Op (((lb_st 2 S2 dd2 z2.2.2).2.1.length)) (Int32.ofInt 12))) (v := .int (nI ((lb_st 2 S2 dd2 z2.2.2).2.1.length))) rfl (congrArg Value.int ((me_uj (Ne.symm (hO.2.1.1))).trans (hT5.2.2.2.1))) k
        have k := ly_revb 2 (c' := (106, [(2, .int (Int32.ofInt 12)), (1, .int (Int32.ofInt 1)), (0, .ref B)], [.int ((nI ((lb_st 2 S2 dd2 z2.2.2).2.1.length)) + (Int32.ofInt 1)), .ref B], me_w M (nt_u J5 Op (((lb_st 2 S2 dd2 z2.2.2).2.1.length)) (Int32.ofInt 12)))) rfl k
        rw [show ((nI ((lb_st 2 S2 dd2 z2.2.2).2.1.length)) + (Int32.ofInt 1) : Int32) = nI (((lb_st 2 S2 dd2 z2.2.2).2.1.length) + 1) from me_add (k := 1)] at k
        have k := me_put rfl (by decide) k
        have k : nt_rn X _ 158 (109, [(2, .int (Int32.ofInt 12)), (1, .int (Int32.ofInt 1)), (0, .ref B)], [], me_w M (nt_u (nt_u J5 Op (((lb_st 2 S2 dd2 z2.2.2).2.1.length)) (Int32.ofInt 12)) B 23 (nI (((lb_st 2 S2 dd2 z2.2.2).2.1.length) + 1)))) _ := k
        have k := ly_revb 1 (c' := (12, [(2, .int (Int32.ofInt 12)), (1, .int (Int32.ofInt 1)), (0, .ref B)], [], me_w M (nt_u (nt_u J5 Op (((lb_st 2 S2 dd2 z2.2.2).2.1.length)) (Int32.ofInt 12)) B 23 (nI (((lb_st 2 S2 dd2 z2.2.2).2.1.length) + 1))))) rfl k
        have hT6 := md_Tpush (y := Int32.ofInt 12) hP hO hT5 hb
        have wl := lb_Wp 16 (by decide)
        have hsl := lb_s_le (f := f) (t := t) (t - (z2.1 + (lb_W (nt_sp + 1 + 16)).length)) (z2.1 + (lb_W (nt_sp + 1 + 16)).length) (by omega)
        dsimp only at hlt1
        obtain ⟨r, a, J9, e9, ⟨k1, hk⟩, hQ⟩ := md_tesl hP hO hB (t - lb_s f t q + 1) _ _ (lb_st 2 S2 dd2 z2.2.2).2.2 _ _ _ _ (by omega) hT6 hp4 k
        exact ⟨r, a, J9, e9, hr1 r (hr2 r ⟨k1 + 1, Or.inl ⟨g16, hk⟩⟩), hQ⟩
      · exact absurd g16 g16b
    · have k : nt_rn X _ 158 (36, [(1, .int (Int32.ofInt 1)), (0, .ref B)], [.int (Int32.ofInt 0)], me_w M (nt_u J2 B 15 (nI z2.1))) _ := k
      have k := ly_revb 1 (c' := (if (Int32.ofInt 0) = 0 then 39 else 49, [(1, .int (Int32.ofInt 1)), (0, .ref B)], [], me_w M (nt_u J2 B 15 (nI z2.1)))) rfl k
      rw [if_pos (show (Int32.ofInt 0) = 0 from by decide)] at k
      have k := ly_revb 2 (c' := (43, [(1, .int (Int32.ofInt 1)), (0, .ref B)], [.long (28530), .ref B], me_w M (nt_u J2 B 15 (nI z2.1)))) rfl k
      obtain ⟨d1, o1, ed, kc, k⟩ := lz_c (g := 137) (q := 1) (vs := [.ref B, .long (28530)]) (rest := []) rfl rfl (by decide) (Or.inr (Or.inl ⟨_, rfl, rfl⟩)) rfl k
      obtain ⟨r, e1, hr⟩ := md_isWord (md_TP hP hO hT3) hT3.1 hp2 kc
      rw [hs2, me_uu] at e1
      rw [hs2] at hr
      subst e1
      rw [lb_w_or] at hr
      rcases hr with ⟨rfl, g17⟩ | ⟨rfl, g17⟩
      · have k : nt_rn X _ 158 (46, [(1, .int (Int32.ofInt 1)), (0, .ref B)], [.int (Int32.ofInt 1)], me_w M (nt_u J2 B 15 (nI z2.1))) _ := k
        have k := ly_revb 1 (c' := (if (Int32.ofInt 1) = 0 then 53 else 49, [(1, .int (Int32.ofInt 1)), (0, .ref B)], [], me_w M (nt_u J2 B 15 (nI z2.1)))) rfl k
        rw [if_neg (show ¬ ((Int32.ofInt 1) = 0) from by decide)] at k
        have k := ly_revb 5 (c' := (if (Int32.ofInt 1) = 0 then 12 else 59, [(1, .int (Int32.ofInt 1)), (0, .ref B)], [], me_w M (nt_u J2 B 15 (nI z2.1)))) rfl k
        rw [if_neg (show ¬ ((Int32.ofInt 1) = 0) from by decide)] at k
        have k := ly_revb 2 (c' := (63, [(1, .int (Int32.ofInt 1)), (0, .ref B)], [.long (6385252), .ref B], me_w M (nt_u J2 B 15 (nI z2.1)))) rfl k
        obtain ⟨d1, o1, ed, kc, k⟩ := lz_c (g := 137) (q := 1) (vs := [.ref B, .long (6385252)]) (rest := []) rfl rfl (by decide) (Or.inr (Or.inl ⟨_, rfl, rfl⟩)) rfl k
        obtain ⟨r, e1, hr⟩ := md_isWord (md_TP hP hO hT3) hT3.1 hp2 kc
        rw [hs2, me_uu] at e1
        rw [hs2] at hr
        subst e1
        rw [lb_w_and] at hr
        rcases hr with ⟨rfl, g16b⟩ | ⟨rfl, g16b⟩
        · exact absurd g16b g16
        · have k : nt_rn X _ 158 (66, [(1, .int (Int32.ofInt 1)), (0, .ref B)], [.int (Int32.ofInt 0)], me_w M (nt_u J2 B 15 (nI z2.1))) _ := k
          have k := ly_revb 1 (c' := (if (Int32.ofInt 0) = 0 then 74 else 69, [(1, .int (Int32.ofInt 1)), (0, .ref B)], [], me_w M (nt_u J2 B 15 (nI z2.1)))) rfl k
          rw [if_pos (show (Int32.ofInt 0) = 0 from by decide)] at k
          have k := ly_revb 3 (c' := (78, [(2, .int (Int32.ofInt 13)), (1, .int (Int32.ofInt 1)), (0, .ref B)], [.ref B], me_w M (nt_u J2 B 15 (nI z2.1)))) rfl k
          obtain ⟨d1, o1, ed, kc, k⟩ := lz_c (g := 142) (q := 1) (vs := [.ref B]) (rest := []) rfl rfl (by decide) (Or.inr (Or.inl ⟨_, rfl, rfl⟩)) rfl k
          have e1 := md_pass (md_TP hP hO hT3) hT3.1 hp2 kc
          rw [lb_at_l g17] at e1
          subst e1
          have hT4 := md_Tup hP hO hT3 (md_Sq (y := z2.1 + (lb_W (nt_sp + 1 + 17)).length) (md_TP hP hO hT3) hT3.1)
          have hp4 : z2.1 + (lb_W (nt_sp + 1 + 17)).length ≤ t := g17.1
          have k : nt_rn X _ 158 (81, [(2, .int (Int32.ofInt 13)), (1, .int (Int32.ofInt 1)), (0, .ref B)], [], me_w M (nt_u (nt_u J2 B 15 (nI z2.1)) B 15 (nI (z2.1 + (lb_W (nt_sp + 1 + 17)).length)))) _ := k
          have k := ly_revb 2 (c' := (83, [(2, .int (Int32.ofInt 13)), (1, .int (Int32.ofInt 1)), (0, .ref B)], [.int (Int32.ofInt 13), .ref B], me_w M (nt_u (nt_u J2 B 15 (nI z2.1)) B 15 (nI (z2.1 + (lb_W (nt_sp + 1 + 17)).length))))) rfl k
          obtain ⟨d1, o1, ed, kc, k⟩ := lz_c (g := 164) (q := 0) (vs := [.int (Int32.ofInt 13)]) (rest := [.ref B]) rfl rfl (by decide) (Or.inl ⟨_, rfl, rfl⟩) rfl k
          have e1 := md_strength kc
          rw [show lb_sg (Int32.ofInt 13) = 1 from by decide] at e1
          subst e1
          have k : nt_rn X _ 158 (86, [(2, .int (Int32.ofInt 13)), (1, .int (Int32.ofInt 1)), (0, .ref B)], [.int (nI 1), .ref B], me_w M (nt_u (nt_u J2 B 15 (nI z2.1)) B 15 (nI (z2.1 + (lb_W (nt_sp + 1 + 17)).length)))) _ := k
          obtain ⟨d1, o1, ed, kc, k⟩ := lz_c (g := 163) (q := 1) (vs := [.ref B, .int (nI 1)]) (rest := []) rfl rfl (by decide) (Or.inr (Or.inl ⟨_, rfl, rfl⟩)) rfl k
          obtain ⟨J5, e1, hT5⟩ := md_settles (l := 1) hP hO (by decide) hp4 S2 dd2 z2.2.2 _ hT4 kc
          subst e1
          have s5 : (lb_st 1 S2 dd2 z2.2.2).2.1.length ≤ 400 := hT5.2.2.2.2.2
          have k : nt_rn X _ 158 (89, [(2, .int (Int32.ofInt 13)), (1, .int (Int32.ofInt 1)), (0, .ref B)], [], me_w M J5) _ := k
          have k := ly_revb 1 (c' := (90, [(2, .int (Int32.ofInt 13)), (1, .int (Int32.ofInt 1)), (0, .ref B)], [.ref B], me_w M J5)) rfl k
          have k := lz_get (a := B) (g := 1122) (M := me_w M J5) (v := .ref Op) rfl (nt_gfR rfl hO.1) k
          have k := ly_revb 1 (c' := (94, [(2, .int (Int32.ofInt 13)), (1, .int (Int32.ofInt 1)), (0, .ref B)], [.ref B, .ref Op], me_w M J5)) rfl k
          have k := lz_get (a := B) (g := 1123) (M := me_w M J5) (v := .int (nI ((lb_st 1 S2 dd2 z2.2.2).2.1.length))) rfl (congrArg Value.int (hT5.2.2.2.1)) k
          have k := ly_revb 1 (c' := (98, [(2, .int (Int32.ofInt 13)), (1, .int (Int32.ofInt 1)), (0, .ref B)], [.int (Int32.ofInt 13), .int (nI ((lb_st 1 S2 dd2 z2.2.2).2.1.length)), .ref Op], me_w M J5)) rfl k
          have hb : ((lb_st 1 S2 dd2 z2.2.2).2.1.length) < nt_l M Op := me_iastb (q := ((lb_st 1 S2 dd2 z2.2.2).2.1.length)) rfl rfl (by omega) k
          rw [hO.2.2.1] at hb
          have k := me_iast (q := ((lb_st 1 S2 dd2 z2.2.2).2.1.length)) rfl (rfl) (by omega) k
          have k := ly_revb 2 (c' := (101, [(2, .int (Int32.ofInt 13)), (1, .int (Int32.ofInt 1)), (0, .ref B)], [.ref B, .ref B], me_w M (nt_u J5 Op (((lb_st 1 S2 dd2 z2.2.2).2.1.length)) (Int32.ofInt 13)))) rfl k
          have k := lz_get (a := B) (g := 1123) (M := me_w M (nt_u J5 Op (((lb_st 1 S2 dd2 z2.2.2).2.1.length)) (Int32.ofInt 13))) (v := .int (nI ((lb_st 1 S2 dd2 z2.2.2).2.1.length))) rfl (congrArg Value.int ((me_uj (Ne.symm (hO.2.1.1))).trans (hT5.2.2.2.1))) k
          have k := ly_revb 2 (c' := (106, [(2, .int (Int32.ofInt 13)), (1, .int (Int32.ofInt 1)), (0, .ref B)], [.int ((nI ((lb_st 1 S2 dd2 z2.2.2).2.1.length)) + (Int32.ofInt 1)), .ref B], me_w M (nt_u J5 Op (((lb_st 1 S2 dd2 z2.2.2).2.1.length)) (Int32.ofInt 13)))) rfl k
          rw [show ((nI ((lb_st 1 S2 dd2 z2.2.2).2.1.length)) + (Int32.ofInt 1) : Int32) = nI (((lb_st 1 S2 dd2 z2.2.2).2.1.length) + 1) from me_add (k := 1)] at k
          have k := me_put rfl (by decide) k
          have k : nt_rn X _ 158 (109, [(2, .int (Int32.ofInt 13)), (1, .int (Int32.ofInt 1)), (0, .ref B)], [], me_w M (nt_u (nt_u J5 Op (((lb_st 1 S2 dd2 z2.2.2).2.1.length)) (Int32.ofInt 13)) B 23 (nI (((lb_st 1 S2 dd2 z2.2.2).2.1.length) + 1)))) _ := k
          have k := ly_revb 1 (c' := (12, [(2, .int (Int32.ofInt 13)), (1, .int (Int32.ofInt 1)), (0, .ref B)], [], me_w M (nt_u (nt_u J5 Op (((lb_st 1 S2 dd2 z2.2.2).2.1.length)) (Int32.ofInt 13)) B 23 (nI (((lb_st 1 S2 dd2 z2.2.2).2.1.length) + 1))))) rfl k
          have hT6 := md_Tpush (y := Int32.ofInt 13) hP hO hT5 hb
          have wl := lb_Wp 17 (by decide)
          have hsl := lb_s_le (f := f) (t := t) (t - (z2.1 + (lb_W (nt_sp + 1 + 17)).length)) (z2.1 + (lb_W (nt_sp + 1 + 17)).length) (by omega)
          dsimp only at hlt1
          obtain ⟨r, a, J9, e9, ⟨k1, hk⟩, hQ⟩ := md_tesl hP hO hB (t - lb_s f t q + 1) _ _ (lb_st 1 S2 dd2 z2.2.2).2.2 _ _ _ _ (by omega) hT6 hp4 k
          exact ⟨r, a, J9, e9, hr1 r (hr2 r ⟨k1 + 1, Or.inr (Or.inl ⟨g16, g17, hk⟩)⟩), hQ⟩
      · have k : nt_rn X _ 158 (46, [(1, .int (Int32.ofInt 1)), (0, .ref B)], [.int (Int32.ofInt 0)], me_w M (nt_u J2 B 15 (nI z2.1))) _ := k
        have k := ly_revb 1 (c' := (if (Int32.ofInt 0) = 0 then 53 else 49, [(1, .int (Int32.ofInt 1)), (0, .ref B)], [], me_w M (nt_u J2 B 15 (nI z2.1)))) rfl k
        rw [if_pos (show (Int32.ofInt 0) = 0 from by decide)] at k
        have k := ly_revb 4 (c' := (if (Int32.ofInt 0) = 0 then 12 else 59, [(1, .int (Int32.ofInt 0)), (0, .ref B)], [], me_w M (nt_u J2 B 15 (nI z2.1)))) rfl k
        rw [if_pos (show (Int32.ofInt 0) = 0 from by decide)] at k
        have k := ly_revb 2 (c' := (if (Int32.ofInt 0) = 0 then 112 else 16, [(1, .int (Int32.ofInt 0)), (0, .ref B)], [], me_w M (nt_u J2 B 15 (nI z2.1)))) rfl k
        rw [if_pos (show (Int32.ofInt 0) = 0 from by decide)] at k
        have k := ly_revb 1 (c' := (113, [(1, .int (Int32.ofInt 0)), (0, .ref B)], [.ref B], me_w M (nt_u J2 B 15 (nI z2.1)))) rfl k
        obtain ⟨d1, o1, ed, kc, k⟩ := lz_c (g := 165) (q := 1) (vs := [.ref B]) (rest := []) rfl rfl (by decide) (Or.inr (Or.inl ⟨_, rfl, rfl⟩)) rfl k
        obtain ⟨r, e1, hin⟩ := md_inside hP hO hT3 kc
        subst e1
        rcases hin with ⟨rfl, hin⟩ | ⟨rfl, hin⟩
        · have k : nt_rn X _ 158 (116, [(1, .int (Int32.ofInt 0)), (0, .ref B)], [.int (Int32.ofInt 1)], me_w M (nt_u J2 B 15 (nI z2.1))) _ := k
          have k := ly_revb 1 (c' := (if (Int32.ofInt 1) = 0 then 134 else 119, [(1, .int (Int32.ofInt 0)), (0, .ref B)], [], me_w M (nt_u J2 B 15 (nI z2.1)))) rfl k
          rw [if_neg (show ¬ ((Int32.ofInt 1) = 0) from by decide)] at k
          have k := ly_revb 1 (c' := (120, [(1, .int (Int32.ofInt 0)), (0, .ref B)], [.ref B], me_w M (nt_u J2 B 15 (nI z2.1)))) rfl k
          obtain ⟨d1, o1, ed, kc, k⟩ := lz_c (g := 136) (q := 1) (vs := [.ref B]) (rest := []) rfl rfl (by decide) (Or.inr (Or.inl ⟨_, rfl, rfl⟩)) rfl k
          have e1 := md_see (md_TP hP hO hT3) hT3.1 hp2 kc
          rw [hs2, me_uu] at e1
          subst e1
          have k : nt_rn X _ 158 (123, [(1, .int (Int32.ofInt 0)), (0, .ref B)], [.int (lb_g f t z2.1)], me_w M (nt_u J2 B 15 (nI z2.1))) _ := k
          have k := ly_revb 4 (c' := (127, [(1, .int (Int32.ofInt 0)), (0, .ref B)], [.ref B, .int (Int32.ofInt 0), .ref B], me_w M (nt_u J2 B 15 (nI z2.1)))) rfl k
          have k := lz_get (a := B) (g := 1115) (M := me_w M (nt_u J2 B 15 (nI z2.1))) (v := .int (nI z2.1)) rfl (congrArg Value.int (hT3.1.1)) k
          obtain ⟨d1, o1, ed, kc, k⟩ := lz_c (g := 139) (q := 1) (vs := [.ref B, .int (Int32.ofInt 0), .int (nI z2.1)]) (rest := []) rfl rfl (by decide) (Or.inr (Or.inl ⟨_, rfl, rfl⟩)) rfl k
          obtain ⟨hf, e1⟩ := (md_fails (a := z2.1) (md_TP hP hO hT3) hT3.1 hp2 kc).resolve_right (fun c => c.1 rfl)
          subst e1
          have hT9 := md_Tup hP hO hT3 (md_Sw (y := lb_c z2.1 (Int32.ofInt 0)) (md_TP hP hO hT3) hT3.1)
          have k : nt_rn X _ 158 (133, [(1, .int (Int32.ofInt 0)), (0, .ref B)], [.int (Int32.ofInt 0)], me_w M (nt_u (nt_u J2 B 15 (nI z2.1)) B 16 (lb_c z2.1 (Int32.ofInt 0)))) _ := k
          have k := lz_ri rfl (by decide) k
          exact ⟨.inl (lb_c z2.1 (Int32.ofInt 0)), _, _, k, hr1 _ (hr2 _ ⟨1, Or.inr (Or.inr (Or.inl ⟨g16, g17, hin, rfl⟩))⟩), (lb_c_ne (by omega) (by decide) (by decide)), rfl, _, _, _, _, _, hT9, hp2⟩
        · have k : nt_rn X _ 158 (116, [(1, .int (Int32.ofInt 0)), (0, .ref B)], [.int (Int32.ofInt 0)], me_w M (nt_u J2 B 15 (nI z2.1))) _ := k
          have k := ly_revb 1 (c' := (if (Int32.ofInt 0) = 0 then 134 else 119, [(1, .int (Int32.ofInt 0)), (0, .ref B)], [], me_w M (nt_u J2 B 15 (nI z2.1)))) rfl k
          rw [if_pos (show (Int32.ofInt 0) = 0 from by decide)] at k
          have k := ly_revb 2 (c' := (136, [(1, .int (Int32.ofInt 0)), (0, .ref B)], [.int (Int32.ofInt 1), .ref B], me_w M (nt_u J2 B 15 (nI z2.1)))) rfl k
          obtain ⟨d1, o1, ed, kc, k⟩ := lz_c (g := 163) (q := 1) (vs := [.ref B, .int (Int32.ofInt 1)]) (rest := []) rfl rfl (by decide) (Or.inr (Or.inl ⟨_, rfl, rfl⟩)) rfl k
          obtain ⟨J5, e1, hT5⟩ := md_settles (l := 1) hP hO (by decide) hp2 S2 dd2 z2.2.2 _ hT3 kc
          subst e1
          have s5 : (lb_st 1 S2 dd2 z2.2.2).2.1.length ≤ 400 := hT5.2.2.2.2.2
          have k : nt_rn X _ 158 (139, [(1, .int (Int32.ofInt 0)), (0, .ref B)], [], me_w M J5) _ := k
          have k := ly_revb 1 (c' := (140, [(1, .int (Int32.ofInt 0)), (0, .ref B)], [.int (Int32.ofInt 1)], me_w M J5)) rfl k
          have k := lz_ri rfl (by decide) k
          exact ⟨.inr (z2.1, z2.2.1, (lb_st 1 S2 dd2 z2.2.2).2.2), _, _, k, hr1 _ (hr2 _ ⟨1, Or.inr (Or.inr (Or.inr ⟨g16, g17, hin, rfl⟩))⟩), rfl, _, _, _, hs2, hp2, hT5⟩
end
