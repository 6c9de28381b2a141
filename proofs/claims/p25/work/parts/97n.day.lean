/-! the day on both sides -/
def lq_s12 (pl : Nat → Nat) (M M' : nt_M) : Prop := (nt_I M' (pl 31) 1).toInt = (nt_I M (pl 31) 1).toInt ∧ (nt_I M' (pl 31) 2).toInt = (nt_I M (pl 31) 2).toInt ∧ (nt_I M' (pl 4) 0).toInt = (nt_I M (pl 4) 0).toInt ∧ (nt_I M' (pl 4) 4).toInt = (nt_I M (pl 4) 4).toInt ∧ (nt_I M' (pl 14) 0).toInt = (nt_I M (pl 14) 0).toInt ∧ (nt_I M' (pl 14) 212).toInt = (nt_I M (pl 14) 212).toInt ∧ (nt_I M' (pl 14) 424).toInt = (nt_I M (pl 14) 424).toInt ∧ (nt_I M' (pl 14) 636).toInt = (nt_I M (pl 14) 636).toInt ∧ (nt_I M' (pl 14) 4).toInt = (nt_I M (pl 14) 4).toInt ∧ (nt_I M' (pl 14) 216).toInt = (nt_I M (pl 14) 216).toInt ∧ (nt_I M' (pl 14) 428).toInt = (nt_I M (pl 14) 428).toInt ∧ (nt_I M' (pl 14) 640).toInt = (nt_I M (pl 14) 640).toInt
def lq_s11C (pl : Nat → Nat) (M M' : nt_M) : Prop := (nt_I M' (pl 31) 1).toInt = (nt_I M (pl 31) 1).toInt ∧ (nt_I M' (pl 4) 0).toInt = (nt_I M (pl 4) 0).toInt ∧ (nt_I M' (pl 4) 4).toInt = (nt_I M (pl 4) 4).toInt ∧ (nt_I M' (pl 14) 0).toInt = (nt_I M (pl 14) 0).toInt ∧ (nt_I M' (pl 14) 212).toInt = (nt_I M (pl 14) 212).toInt ∧ (nt_I M' (pl 14) 424).toInt = (nt_I M (pl 14) 424).toInt ∧ (nt_I M' (pl 14) 636).toInt = (nt_I M (pl 14) 636).toInt ∧ (nt_I M' (pl 14) 4).toInt = (nt_I M (pl 14) 4).toInt ∧ (nt_I M' (pl 14) 216).toInt = (nt_I M (pl 14) 216).toInt ∧ (nt_I M' (pl 14) 428).toInt = (nt_I M (pl 14) 428).toInt ∧ (nt_I M' (pl 14) 640).toInt = (nt_I M (pl 14) 640).toInt
def lq_s11R (pl : Nat → Nat) (M M' : nt_M) : Prop := (nt_I M' (pl 31) 1).toInt = (nt_I M (pl 31) 1).toInt ∧ (nt_I M' (pl 31) 2).toInt = (nt_I M (pl 31) 2).toInt ∧ (nt_I M' (pl 4) 0).toInt = (nt_I M (pl 4) 0).toInt ∧ (nt_I M' (pl 14) 0).toInt = (nt_I M (pl 14) 0).toInt ∧ (nt_I M' (pl 14) 212).toInt = (nt_I M (pl 14) 212).toInt ∧ (nt_I M' (pl 14) 424).toInt = (nt_I M (pl 14) 424).toInt ∧ (nt_I M' (pl 14) 636).toInt = (nt_I M (pl 14) 636).toInt ∧ (nt_I M' (pl 14) 4).toInt = (nt_I M (pl 14) 4).toInt ∧ (nt_I M' (pl 14) 216).toInt = (nt_I M (pl 14) 216).toInt ∧ (nt_I M' (pl 14) 428).toInt = (nt_I M (pl 14) 428).toInt ∧ (nt_I M' (pl 14) 640).toInt = (nt_I M (pl 14) 640).toInt
def lq_D (pl : Nat → Nat) (M : nt_M) : Prop := ((nt_I M (pl 31) 2).toInt = (nt_I M (pl 4) 4).toInt ∧ 0 ≤ (nt_I M (pl 4) 4).toInt ∧ (nt_I M (pl 4) 4).toInt ≤ 200) ∧ ((nt_I M (pl 31) 1).toInt = 1 ↔ 0 < (nt_I M (pl 4) 0).toInt) ∧ ∀ k, k < 4 → ∀ a, nt_R M (pl 65) k = some a → ((nt_I M a 2).toInt = (nt_I M (pl 14) (212 * k + 4)).toInt ∧ 0 ≤ (nt_I M (pl 14) (212 * k + 4)).toInt ∧ (nt_I M (pl 14) (212 * k + 4)).toInt ≤ 200) ∧ ((nt_I M a 1).toInt = 1 ↔ 0 < (nt_I M (pl 14) (212 * k)).toInt)
theorem lq_bt {pl : Nat → Nat} {v : Nat → Int} {M : nt_M} (hB : ly_B pl v M) : ((0 : Int) ≤ (nt_I M (pl 31) 1).toInt ∧ (nt_I M (pl 31) 1).toInt ≤ 1) ∧ ((0 : Int) ≤ (nt_I M (pl 4) 0).toInt ∧ (nt_I M (pl 4) 0).toInt ≤ 4) := ⟨(hB.2.1.2 31 _ (show ly_E.2.1[31]? = some (6, 0, 0, 15) from rfl)).2.2.2.2 1, (hB.2.1.2 4 _ (show ly_E.2.1[4]? = some (13, 212, 212, 10) from rfl)).2.2.2.2 0⟩
theorem lq_img {pl : Nat → Nat} {mk xi : Nat → Int} {rc : Int} {M M' : nt_M} (hS : ly_S pl mk xi rc M) (hf : ly_fr 66 pl M M') {k a : Nat} (hk : k < 4) (h : nt_R M' (pl 65) k = some a) : nt_R M (pl 65) k = some a ∧ ∀ j, nt_I M' a j = nt_I M a j := by
  have e := hf.2.2 65 k (Or.inr rfl)
  rw [e] at h
  obtain ⟨⟨p1, _⟩, _, T, p7, _⟩ := hS
  rcases p7 k hk with ⟨c, _⟩ | ⟨a', c1, _, c3, _⟩
  · rw [h] at c
    cases c
  · rw [h] at c1
    cases c1
    exact ⟨h, (hf.2.1 a (fun g hg => by have := p1 g hg; omega)).1⟩
theorem lq_DK {pl : Nat → Nat} {mk xi : Nat → Int} {rc : Int} {M M' : nt_M} (h : lq_s12 pl M M') (hS : ly_S pl mk xi rc M) (hf : ly_fr 66 pl M M') (hD : lq_D pl M) : lq_D pl M' := by
  obtain ⟨c1, c2, c3, c4, a0, a1, a2, a3, b0, b1, b2, b3⟩ := h
  obtain ⟨⟨d1, d2, d3⟩, d4, d5⟩ := hD
  refine ⟨⟨by omega, by omega, by omega⟩, by rw [c1, c3]; exact d4, fun k hk a ha => ?_⟩
  obtain ⟨ha, hi⟩ := lq_img hS hf hk ha
  have q := d5 k hk a ha
  rw [hi 2, hi 1]
  rcases (by omega : k = 0 ∨ k = 1 ∨ k = 2 ∨ k = 3) with rfl | rfl | rfl | rfl
  · rw [show (nt_I M' (pl 14) (212 * 0 + 4)).toInt = (nt_I M (pl 14) (212 * 0 + 4)).toInt from b0, show (nt_I M' (pl 14) (212 * 0)).toInt = (nt_I M (pl 14) (212 * 0)).toInt from a0]; exact q
  · rw [show (nt_I M' (pl 14) (212 * 1 + 4)).toInt = (nt_I M (pl 14) (212 * 1 + 4)).toInt from b1, show (nt_I M' (pl 14) (212 * 1)).toInt = (nt_I M (pl 14) (212 * 1)).toInt from a1]; exact q
  · rw [show (nt_I M' (pl 14) (212 * 2 + 4)).toInt = (nt_I M (pl 14) (212 * 2 + 4)).toInt from b2, show (nt_I M' (pl 14) (212 * 2)).toInt = (nt_I M (pl 14) (212 * 2)).toInt from a2]; exact q
  · rw [show (nt_I M' (pl 14) (212 * 3 + 4)).toInt = (nt_I M (pl 14) (212 * 3 + 4)).toInt from b3, show (nt_I M' (pl 14) (212 * 3)).toInt = (nt_I M (pl 14) (212 * 3)).toInt from a3]; exact q
theorem lq_m1 {a : Int32} (h : a.toInt = -1) : a = Int32.ofInt (-1) := Int32.toInt_inj.mp (by rw [h]; decide)
theorem lq_daysC {X : nt_X} {pl : Nat → Nat} {v : Nat → Int} {M : nt_M} {o : Option Value × nt_M} {ru n : Int32} {mk xi : Nat → Int} (hB : ly_B pl v M) (hS : ly_S pl mk xi (v 2) M) (hb2 : (0 : Int) ≤ (nt_I M (pl 31) 2).toInt ∧ (nt_I M (pl 31) 2).toInt ≤ 200) (hb4 : (0 : Int) ≤ (nt_I M (pl 4) 4).toInt ∧ (nt_I M (pl 4) 4).toInt ≤ 200) (k : nt_ev X 99 110 [.ref (pl 16), .int ru, .int n] M o) : ∃ (y : Int32) (M' : nt_M), o = (some (.int y), M') ∧ (((1 ≤ (nt_I M (pl 31) 1).toInt ∧ (ru.toInt = -1 ∨ (0 ≤ ru.toInt ∧ ru.toInt < v 2)) ∧ 1 ≤ n.toInt ∧ n.toInt ≤ 100 ∧ (nt_I M (pl 31) 2).toInt + n.toInt ≤ 200) ∧ y.toInt = (nt_I M (pl 31) 2).toInt + n.toInt ∧ (nt_I M' (pl 31) 2).toInt = (nt_I M (pl 31) 2).toInt + n.toInt ∧ lq_s11C pl M M') ∨ (¬ (1 ≤ (nt_I M (pl 31) 1).toInt ∧ (ru.toInt = -1 ∨ (0 ≤ ru.toInt ∧ ru.toInt < v 2)) ∧ 1 ≤ n.toInt ∧ n.toInt ≤ 100 ∧ (nt_I M (pl 31) 2).toInt + n.toInt ≤ 200) ∧ y.toInt = -1 ∧ lq_s12 pl M M')) := by
  obtain ⟨bt, bs⟩ := lq_bt hB
  have hv2 := ly_ob hB (2, 0, 6) (List.mem_of_getElem? (i := 2) rfl)
  dsimp only at hv2
  have la := ru.le_toInt
  have lb := ru.toInt_lt
  by_cases q1 : ru.toInt = -1
  · rw [lq_m1 q1] at k
    obtain ⟨y, M', rfl, h⟩ := lwd_n_daysN (by decide) hB bt hb2 bs hb4 k
    rcases h with h | h | h | h | h
    · obtain ⟨hy, c0, c1, c2, c3, c4, c5, c6, c7, c8, c9, c10, c11, f1⟩ := h
      exact ⟨y, M', rfl, Or.inr ⟨fun hh => by omega, hy, c0, c1, c2, c3, c4, c5, c6, c7, c8, c9, c10, c11⟩⟩
    · obtain ⟨hy, c0, c1, c2, c3, c4, c5, c6, c7, c8, c9, c10, c11, f1⟩ := h
      exact ⟨y, M', rfl, Or.inr ⟨fun hh => by omega, hy, c0, c1, c2, c3, c4, c5, c6, c7, c8, c9, c10, c11⟩⟩
    · obtain ⟨hy, c0, c1, c2, c3, c4, c5, c6, c7, c8, c9, c10, c11, f1⟩ := h
      exact ⟨y, M', rfl, Or.inr ⟨fun hh => by omega, hy, c0, c1, c2, c3, c4, c5, c6, c7, c8, c9, c10, c11⟩⟩
    · obtain ⟨hy, c0, c1, c2, c3, c4, c5, c6, c7, c8, c9, c10, c11, f1⟩ := h
      exact ⟨y, M', rfl, Or.inr ⟨fun hh => by omega, hy, c0, c1, c2, c3, c4, c5, c6, c7, c8, c9, c10, c11⟩⟩
    · obtain ⟨c0, c1, c2, c3, c4, c5, c6, c7, c8, c9, c10, c11, f1, f2, f3, f4, f5, f6⟩ := h
      exact ⟨y, M', rfl, Or.inl ⟨by omega, by omega, by omega, c0, c2, c3, c4, c5, c6, c7, c8, c9, c10, c11⟩⟩
  by_cases q2 : ru.toInt < -1
  · obtain ⟨y, M', rfl, hy, c0, c1, c2, c3, c4, c5, c6, c7, c8, c9, c10, c11⟩ := lwd_n_daysL (by decide) hB bt bs ⟨by omega, by omega⟩ k
    exact ⟨y, M', rfl, Or.inr ⟨fun hh => by omega, hy, c0, c1, c2, c3, c4, c5, c6, c7, c8, c9, c10, c11⟩⟩
  by_cases q3 : v 2 ≤ ru.toInt
  · obtain ⟨y, M', rfl, hy, c0, c1, c2, c3, c4, c5, c6, c7, c8, c9, c10, c11⟩ := lwd_n_daysH (by decide) hB bt bs (by omega) k
    exact ⟨y, M', rfl, Or.inr ⟨fun hh => by omega, hy, c0, c1, c2, c3, c4, c5, c6, c7, c8, c9, c10, c11⟩⟩
  · obtain ⟨y, M', rfl, h⟩ := lwd_n_daysR (by decide) hB hS bt hb2 bs hb4 ⟨by omega, by omega⟩ (by omega) k
    rcases h with h | h | h | h | h | h
    · obtain ⟨hy, c0, c1, c2, c3, c4, c5, c6, c7, c8, c9, c10, c11, f1⟩ := h
      exact ⟨y, M', rfl, Or.inr ⟨fun hh => by omega, hy, c0, c1, c2, c3, c4, c5, c6, c7, c8, c9, c10, c11⟩⟩
    · obtain ⟨hy, c0, c1, c2, c3, c4, c5, c6, c7, c8, c9, c10, c11, f1⟩ := h
      exact ⟨y, M', rfl, Or.inr ⟨fun hh => by omega, hy, c0, c1, c2, c3, c4, c5, c6, c7, c8, c9, c10, c11⟩⟩
    · obtain ⟨hy, c0, c1, c2, c3, c4, c5, c6, c7, c8, c9, c10, c11, f1⟩ := h
      exact ⟨y, M', rfl, Or.inr ⟨fun hh => by omega, hy, c0, c1, c2, c3, c4, c5, c6, c7, c8, c9, c10, c11⟩⟩
    · obtain ⟨hy, c0, c1, c2, c3, c4, c5, c6, c7, c8, c9, c10, c11, f1⟩ := h
      exact ⟨y, M', rfl, Or.inr ⟨fun hh => by omega, hy, c0, c1, c2, c3, c4, c5, c6, c7, c8, c9, c10, c11⟩⟩
    · obtain ⟨hy, c0, c1, c2, c3, c4, c5, c6, c7, c8, c9, c10, c11, f1⟩ := h
      exact ⟨y, M', rfl, Or.inr ⟨fun hh => by omega, hy, c0, c1, c2, c3, c4, c5, c6, c7, c8, c9, c10, c11⟩⟩
    · obtain ⟨c0, c1, c2, c3, c4, c5, c6, c7, c8, c9, c10, c11, f1, f2, f3, f4, f5, f6⟩ := h
      exact ⟨y, M', rfl, Or.inl ⟨by omega, by omega, by omega, c0, c2, c3, c4, c5, c6, c7, c8, c9, c10, c11⟩⟩
theorem lq_daysR {X : nt_X} {pl : Nat → Nat} {v : Nat → Int} {M : nt_M} {o : Option Value × nt_M} {ru n : Int32} (hB : ly_B pl v M) (hb2 : (0 : Int) ≤ (nt_I M (pl 31) 2).toInt ∧ (nt_I M (pl 31) 2).toInt ≤ 200) (hb4 : (0 : Int) ≤ (nt_I M (pl 4) 4).toInt ∧ (nt_I M (pl 4) 4).toInt ≤ 200) (k : nt_ev X 99 186 [.ref (pl 0), .int ru, .int n] M o) : ∃ (y : Int32) (M' : nt_M), o = (some (.int y), M') ∧ (((1 ≤ (nt_I M (pl 4) 0).toInt ∧ (ru.toInt = -1 ∨ (0 ≤ ru.toInt ∧ ru.toInt < (nt_I M (pl 0) 2).toInt)) ∧ 1 ≤ n.toInt ∧ n.toInt ≤ 100 ∧ (nt_I M (pl 4) 4).toInt + n.toInt ≤ 200) ∧ y.toInt = (nt_I M (pl 4) 4).toInt + n.toInt ∧ (nt_I M' (pl 4) 4).toInt = (nt_I M (pl 4) 4).toInt + n.toInt ∧ lq_s11R pl M M') ∨ (¬ (1 ≤ (nt_I M (pl 4) 0).toInt ∧ (ru.toInt = -1 ∨ (0 ≤ ru.toInt ∧ ru.toInt < (nt_I M (pl 0) 2).toInt)) ∧ 1 ≤ n.toInt ∧ n.toInt ≤ 100 ∧ (nt_I M (pl 4) 4).toInt + n.toInt ≤ 200) ∧ y.toInt = -1 ∧ lq_s12 pl M M')) := by
  obtain ⟨bt, bs⟩ := lq_bt hB
  have hv2 := ly_ob hB (2, 0, 6) (List.mem_of_getElem? (i := 2) rfl)
  dsimp only at hv2
  have la := ru.le_toInt
  have lb := ru.toInt_lt
  have hR : (0 : Int) ≤ (nt_I M (pl 0) 2).toInt ∧ (nt_I M (pl 0) 2).toInt ≤ 6 := (hB.2.1.2 0 _ (show ly_E.2.1[0]? = some (11, 0, 0, 9) from rfl)).2.2.2.2 2
  by_cases q1 : ru.toInt = -1
  · rw [lq_m1 q1] at k
    obtain ⟨y, M', rfl, h⟩ := lwd_daysN (by decide) hB bt hb2 bs hb4 k
    rcases h with h | h | h | h | h
    · obtain ⟨hy, c0, c1, c2, c3, c4, c5, c6, c7, c8, c9, c10, c11, f1⟩ := h
      exact ⟨y, M', rfl, Or.inr ⟨fun hh => by omega, hy, c0, c1, c2, c3, c4, c5, c6, c7, c8, c9, c10, c11⟩⟩
    · obtain ⟨hy, c0, c1, c2, c3, c4, c5, c6, c7, c8, c9, c10, c11, f1⟩ := h
      exact ⟨y, M', rfl, Or.inr ⟨fun hh => by omega, hy, c0, c1, c2, c3, c4, c5, c6, c7, c8, c9, c10, c11⟩⟩
    · obtain ⟨hy, c0, c1, c2, c3, c4, c5, c6, c7, c8, c9, c10, c11, f1⟩ := h
      exact ⟨y, M', rfl, Or.inr ⟨fun hh => by omega, hy, c0, c1, c2, c3, c4, c5, c6, c7, c8, c9, c10, c11⟩⟩
    · obtain ⟨hy, c0, c1, c2, c3, c4, c5, c6, c7, c8, c9, c10, c11, f1⟩ := h
      exact ⟨y, M', rfl, Or.inr ⟨fun hh => by omega, hy, c0, c1, c2, c3, c4, c5, c6, c7, c8, c9, c10, c11⟩⟩
    · obtain ⟨c0, c1, c2, c3, c4, c5, c6, c7, c8, c9, c10, c11, f1, f2, f3, f4, f5, f6⟩ := h
      exact ⟨y, M', rfl, Or.inl ⟨by omega, by omega, by omega, c0, c1, c2, c4, c5, c6, c7, c8, c9, c10, c11⟩⟩
  by_cases q2 : ru.toInt < -1
  · obtain ⟨y, M', rfl, hy, c0, c1, c2, c3, c4, c5, c6, c7, c8, c9, c10, c11⟩ := lwd_daysL (by decide) hB bt bs ⟨by omega, by omega⟩ k
    exact ⟨y, M', rfl, Or.inr ⟨fun hh => by omega, hy, c0, c1, c2, c3, c4, c5, c6, c7, c8, c9, c10, c11⟩⟩
  by_cases q3 : (nt_I M (pl 0) 2).toInt ≤ ru.toInt
  · obtain ⟨y, M', rfl, hy, c0, c1, c2, c3, c4, c5, c6, c7, c8, c9, c10, c11⟩ := lwd_daysH (by decide) hB bt bs hR ⟨by omega, by omega⟩ (by omega) k
    exact ⟨y, M', rfl, Or.inr ⟨fun hh => by omega, hy, c0, c1, c2, c3, c4, c5, c6, c7, c8, c9, c10, c11⟩⟩
  · obtain ⟨y, M', rfl, h⟩ := lwd_daysR (by decide) hB bt hb2 bs hb4 hR ⟨by omega, by omega⟩ (by omega) k
    rcases h with h | h | h | h | h | h
    · obtain ⟨hy, c0, c1, c2, c3, c4, c5, c6, c7, c8, c9, c10, c11, f1⟩ := h
      exact ⟨y, M', rfl, Or.inr ⟨fun hh => by omega, hy, c0, c1, c2, c3, c4, c5, c6, c7, c8, c9, c10, c11⟩⟩
    · obtain ⟨hy, c0, c1, c2, c3, c4, c5, c6, c7, c8, c9, c10, c11, f1⟩ := h
      exact ⟨y, M', rfl, Or.inr ⟨fun hh => by omega, hy, c0, c1, c2, c3, c4, c5, c6, c7, c8, c9, c10, c11⟩⟩
    · obtain ⟨hy, c0, c1, c2, c3, c4, c5, c6, c7, c8, c9, c10, c11, f1⟩ := h
      exact ⟨y, M', rfl, Or.inr ⟨fun hh => by omega, hy, c0, c1, c2, c3, c4, c5, c6, c7, c8, c9, c10, c11⟩⟩
    · obtain ⟨hy, c0, c1, c2, c3, c4, c5, c6, c7, c8, c9, c10, c11, f1⟩ := h
      exact ⟨y, M', rfl, Or.inr ⟨fun hh => by omega, hy, c0, c1, c2, c3, c4, c5, c6, c7, c8, c9, c10, c11⟩⟩
    · obtain ⟨hy, c0, c1, c2, c3, c4, c5, c6, c7, c8, c9, c10, c11, f1⟩ := h
      exact ⟨y, M', rfl, Or.inr ⟨fun hh => by omega, hy, c0, c1, c2, c3, c4, c5, c6, c7, c8, c9, c10, c11⟩⟩
    · obtain ⟨c0, c1, c2, c3, c4, c5, c6, c7, c8, c9, c10, c11, f1, f2, f3, f4, f5, f6⟩ := h
      exact ⟨y, M', rfl, Or.inl ⟨by omega, by omega, by omega, c0, c1, c2, c4, c5, c6, c7, c8, c9, c10, c11⟩⟩
