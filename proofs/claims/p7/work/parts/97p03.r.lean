/-! what a day's changes keep -/
theorem zW_lose {e f : Nat → Int32} {b : Int} {n v : Nat} (hW : zW e b) (hn : n < zn e 1) (h1 : e (10 + 7 * n + 4) = 1) (hv : v < zn e 3) (ho : (e (10 + 7 * n + 5)).toInt = v) (w : xr_W f) (f4 : f (10 + 7 * n + 4) = 2) (f5 : f (10 + 7 * n + 5) = Int32.ofInt (-1)) (fv : f (172 + 5 * v + 4) = 3) (fl : ∀ p, p < zn e 2 → f (52 + 5 * p + 4) = if (e (52 + 5 * p + 3)).toInt = n then 1 else e (52 + 5 * p + 4)) (fo : ∀ j, j ≠ 10 + 7 * n + 4 → j ≠ 10 + 7 * n + 5 → j ≠ 172 + 5 * v + 4 → ¬ (52 ≤ j ∧ j < 172 ∧ (j - 52) % 5 = 4) → f j = e j) : zW f b := by
  have bb := zn_b hW.w
  have g : ∀ i, i < 10 → f i = e i := fun i hi => fo i (by omega) (by omega) (by omega) (by omega)
  have n1 := zn_ag (g 1 (by omega))
  have n2 := zn_ag (g 2 (by omega))
  have n3 := zn_ag (g 3 (by omega))
  refine ⟨w, ?_, ⟨?_, ?_⟩, ⟨?_, ?_, ?_, ?_⟩, ?_⟩
  · exact zA_ag hW.a hW.w (fun i hi _ => g i (by omega)) (fun s hs k hk => fo _ (by omega) (by omega) (by omega) (by omega)) (fun p hp => ⟨fo _ (by omega) (by omega) (by omega) (by omega), fo _ (by omega) (by omega) (by omega) (by omega)⟩) (fun u hu k hk => fo _ (by omega) (by omega) (by omega) (by omega))
  · intro p hp
    rw [n2] at hp
    rw [fo _ (by omega) (by omega) (by omega) (by omega), g 1 (by omega)]
    exact hW.b.inn p hp
  · intro p hp
    rw [n2] at hp
    have i := hW.b.inn p hp
    have y : (e (52 + 5 * p + 3)).toNatClampNeg = (e (52 + 5 * p + 3)).toInt.toNat := rfl
    rw [fl p hp, fo (52 + 5 * p + 3) (by omega) (by omega) (by omega) (by omega)]
    by_cases c : (e (52 + 5 * p + 3)).toInt = n
    · rw [if_pos c, if_pos]
      refine ⟨by omega, ?_⟩
      rw [show (e (52 + 5 * p + 3)).toNatClampNeg = n from by omega]
      exact f4
    · rw [if_neg c, hW.b.lo p hp]
      by_cases d : 0 ≤ (e (52 + 5 * p + 3)).toInt
      · rw [fo (10 + 7 * (e (52 + 5 * p + 3)).toNatClampNeg + 4) (by omega) (by omega) (by omega) (by omega)]
      · rw [if_neg (fun z => d z.1), if_neg (fun z => d z.1)]
  · intro s hs
    rw [n1] at hs
    by_cases c : s = n
    · rw [c, f4]
      exact Or.inr (Or.inr rfl)
    · rw [fo _ (by omega) (by omega) (by omega) (by omega)]
      exact hW.c.st s hs
  · intro s hs e1
    rw [n1] at hs
    by_cases c : s = n
    · rw [c, f4] at e1
      exact absurd e1 (by decide)
    · rw [fo _ (by omega) (by omega) (by omega) (by omega)] at e1
      obtain ⟨u, a, b, cc, d, g'⟩ := hW.c.on s hs e1
      have nu : u ≠ v := by
        intro z
        obtain ⟨u2, a2, b2, c2, d2, g2⟩ := hW.c.on n hn h1
        have : u2 = v := by omega
        rw [z] at cc
        rw [this] at c2
        omega
      refine ⟨u, by rw [n3]; exact a, ?_, ?_, ?_, ?_⟩
      · rw [fo _ (by omega) (by omega) (by omega) (by omega)]
        exact b
      · rw [fo _ (by omega) (by omega) (by omega) (by omega)]
        exact cc
      · rw [fo _ (by omega) (by omega) (by omega) (by omega)]
        exact d
      · rw [fo _ (by omega) (by omega) (by omega) (by omega)]
        exact g'
  · intro s hs e1
    rw [n1] at hs
    by_cases c : s = n
    · rw [c, f5]
    · rw [fo _ (by omega) (by omega) (by omega) (by omega)] at e1
      rw [fo _ (by omega) (by omega) (by omega) (by omega)]
      exact hW.c.no s hs e1
  · intro u hu e1
    rw [n3] at hu
    by_cases c : u = v
    · rw [c, fv] at e1
      exact absurd e1 (by decide)
    · rw [fo _ (by omega) (by omega) (by omega) (by omega)] at e1
      obtain ⟨s, a, b, cc, d⟩ := hW.c.vc u hu e1
      have ns : s ≠ n := by
        intro z
        rw [z] at d
        omega
      refine ⟨s, by rw [n1]; exact a, ?_, ?_, ?_⟩
      · rw [fo _ (by omega) (by omega) (by omega) (by omega)]
        exact b
      · rw [fo _ (by omega) (by omega) (by omega) (by omega)]
        exact cc
      · rw [fo _ (by omega) (by omega) (by omega) (by omega)]
        exact d
  · exact zD_ag hW.d hW.w (g 2 (by omega)) (g 4 (by omega)) (g 5 (by omega)) (g 6 (by omega)) (fun p hp => fo _ (by omega) (by omega) (by omega) (by omega))
/-- a plank moved -/
theorem zW_put {e f : Nat → Int32} {b : Int} {n : Nat} {s : Int32} (hW : zW e b) (hn : n < zn e 2) (hs : -1 ≤ s.toInt ∧ s.toInt < (e 1).toInt) (hsl : 0 ≤ s.toInt → e (10 + 7 * s.toNatClampNeg + 4) ≠ 2) (hl : e (52 + 5 * n + 4) = 0) (h6 : (e 6).toInt < (e 5).toInt) (w : xr_W f) (f3 : f (52 + 5 * n + 3) = s) (f6 : (f 6).toInt = (e 6).toInt + 1) (fo : ∀ j, j ≠ 52 + 5 * n + 3 → j ≠ 6 → j ≠ 8 → f j = e j) : zW f b := by
  have bb := zn_b hW.w
  have g : ∀ i, i < 6 → f i = e i := fun i hi => fo i (by omega) (by omega) (by omega)
  have n2 := zn_ag (g 2 (by omega))
  refine ⟨w, ?_, ⟨?_, ?_⟩, ?_, ⟨?_, ?_, ?_⟩⟩
  · exact zA_ag hW.a hW.w (fun i hi _ => g i (by omega)) (fun s hs k hk => fo _ (by omega) (by omega) (by omega)) (fun p hp => ⟨fo _ (by omega) (by omega) (by omega), fo _ (by omega) (by omega) (by omega)⟩) (fun u hu k hk => fo _ (by omega) (by omega) (by omega))
  · intro p hp
    rw [n2] at hp
    rw [g 1 (by omega)]
    by_cases c : p = n
    · rw [c, f3]
      exact hs
    · rw [fo _ (by omega) (by omega) (by omega)]
      exact hW.b.inn p hp
  · intro p hp
    rw [n2] at hp
    rw [fo (52 + 5 * p + 4) (by omega) (by omega) (by omega)]
    by_cases c : p = n
    · rw [c, f3, hl, if_neg]
      intro z
      have y : s.toNatClampNeg = s.toInt.toNat := rfl
      rw [fo _ (by omega) (by omega) (by omega)] at z
      exact hsl z.1 z.2
    · have i := hW.b.inn p hp
      have y : (e (52 + 5 * p + 3)).toNatClampNeg = (e (52 + 5 * p + 3)).toInt.toNat := rfl
      rw [fo (52 + 5 * p + 3) (by omega) (by omega) (by omega), fo (10 + 7 * (e (52 + 5 * p + 3)).toNatClampNeg + 4) (by omega) (by omega) (by omega)]
      exact hW.b.lo p hp
  · exact zC_ag hW.c hW.w (g 1 (by omega)) (g 3 (by omega)) (fun s hs => ⟨fo _ (by omega) (by omega) (by omega), fo _ (by omega) (by omega) (by omega)⟩) (fun v hv => ⟨fo _ (by omega) (by omega) (by omega), fo _ (by omega) (by omega) (by omega), fo _ (by omega) (by omega) (by omega)⟩)
  · have := hW.d.h6
    rw [g 5 (by omega), f6]
    omega
  · rw [g 4 (by omega)]
    exact hW.d.d4
  · intro p hp
    rw [n2] at hp
    rw [fo _ (by omega) (by omega) (by omega)]
    exact hW.d.ro p hp
/-- a ship sets out -/
theorem zW_out {e f : Nat → Int32} {b : Int} {n v : Nat} (hW : zW e b) (hn : n < zn e 1) (h0 : e (10 + 7 * n + 4) = 0) (hv : v < zn e 3) (hs : (e (172 + 5 * v + 0)).toInt = n) (hb : b ≤ (e (172 + 5 * v + 2)).toInt) (w : xr_W f) (f4 : f (10 + 7 * n + 4) = 1) (f5 : (f (10 + 7 * n + 5)).toInt = v) (fv : f (172 + 5 * v + 4) = 1) (fo : ∀ j, j ≠ 10 + 7 * n + 4 → j ≠ 10 + 7 * n + 5 → j ≠ 172 + 5 * v + 4 → f j = e j) : zW f b := by
  have bb := zn_b hW.w
  have g : ∀ i, i < 10 → f i = e i := fun i hi => fo i (by omega) (by omega) (by omega)
  have n1 := zn_ag (g 1 (by omega))
  have n2 := zn_ag (g 2 (by omega))
  have n3 := zn_ag (g 3 (by omega))
  refine ⟨w, ?_, ⟨?_, ?_⟩, ⟨?_, ?_, ?_, ?_⟩, ?_⟩
  · exact zA_ag hW.a hW.w (fun i hi _ => g i (by omega)) (fun s hs k hk => fo _ (by omega) (by omega) (by omega)) (fun p hp => ⟨fo _ (by omega) (by omega) (by omega), fo _ (by omega) (by omega) (by omega)⟩) (fun u hu k hk => fo _ (by omega) (by omega) (by omega))
  · intro p hp
    rw [n2] at hp
    rw [fo _ (by omega) (by omega) (by omega), g 1 (by omega)]
    exact hW.b.inn p hp
  · intro p hp
    rw [n2] at hp
    have i := hW.b.inn p hp
    have y : (e (52 + 5 * p + 3)).toNatClampNeg = (e (52 + 5 * p + 3)).toInt.toNat := rfl
    rw [fo (52 + 5 * p + 4) (by omega) (by omega) (by omega), fo (52 + 5 * p + 3) (by omega) (by omega) (by omega), hW.b.lo p hp]
    by_cases d : 0 ≤ (e (52 + 5 * p + 3)).toInt
    · by_cases c : (e (52 + 5 * p + 3)).toNatClampNeg = n
      · rw [c, f4, h0, if_neg (fun z => absurd z.2 (by decide)), if_neg (fun z => absurd z.2 (by decide))]
      · rw [fo (10 + 7 * (e (52 + 5 * p + 3)).toNatClampNeg + 4) (by omega) (by omega) (by omega)]
    · rw [if_neg (fun z => d z.1), if_neg (fun z => d z.1)]
  · intro s hs
    rw [n1] at hs
    by_cases c : s = n
    · rw [c, f4]
      exact Or.inr (Or.inl rfl)
    · rw [fo _ (by omega) (by omega) (by omega)]
      exact hW.c.st s hs
  · intro s hs2 e1
    rw [n1] at hs2
    by_cases c : s = n
    · rw [c]
      exact ⟨v, by rw [n3]; exact hv, f5, by rw [fo _ (by omega) (by omega) (by omega)]; exact hs, fv, by rw [fo _ (by omega) (by omega) (by omega)]; exact hb⟩
    · rw [fo _ (by omega) (by omega) (by omega)] at e1
      obtain ⟨u, a, b, cc, d, g'⟩ := hW.c.on s hs2 e1
      have nu : u ≠ v := by
        intro z
        rw [z] at cc
        omega
      exact ⟨u, by rw [n3]; exact a, by rw [fo _ (by omega) (by omega) (by omega)]; exact b, by rw [fo _ (by omega) (by omega) (by omega)]; exact cc, by rw [fo _ (by omega) (by omega) (by omega)]; exact d, by rw [fo _ (by omega) (by omega) (by omega)]; exact g'⟩
  · intro s hs2 e1
    rw [n1] at hs2
    by_cases c : s = n
    · rw [c, f4] at e1
      exact absurd rfl e1
    · rw [fo _ (by omega) (by omega) (by omega)] at e1
      rw [fo _ (by omega) (by omega) (by omega)]
      exact hW.c.no s hs2 e1
  · intro u hu e1
    rw [n3] at hu
    by_cases c : u = v
    · rw [c]
      exact ⟨n, by rw [n1]; exact hn, by rw [fo _ (by omega) (by omega) (by omega)]; exact hs, f4, f5⟩
    · rw [fo _ (by omega) (by omega) (by omega)] at e1
      obtain ⟨s, a, b, cc, d⟩ := hW.c.vc u hu e1
      have ns : s ≠ n := by
        intro z
        rw [z, h0] at cc
        exact absurd cc (by decide)
      exact ⟨s, by rw [n1]; exact a, by rw [fo _ (by omega) (by omega) (by omega)]; exact b, by rw [fo _ (by omega) (by omega) (by omega)]; exact cc, by rw [fo _ (by omega) (by omega) (by omega)]; exact d⟩
  · exact zD_ag hW.d hW.w (g 2 (by omega)) (g 4 (by omega)) (g 5 (by omega)) (g 6 (by omega)) (fun p hp => fo _ (by omega) (by omega) (by omega))
/-- rot -/
theorem zW_rot {e f : Nat → Int32} {b : Int} {n : Nat} (hW : zW e b) (hn : n < 24) (w : xr_W f) (f1 : 0 ≤ (f (52 + 5 * n + 1)).toInt ∧ (f (52 + 5 * n + 1)).toInt ≤ 99) (fo : ∀ j, j ≠ 52 + 5 * n + 1 → f j = e j) : zW f b := by
  have g : ∀ i, i < 10 → f i = e i := fun i hi => fo i (by omega)
  have bb := zn_b hW.w
  have n2 := zn_ag (g 2 (by omega))
  refine ⟨w, ?_, ?_, ?_, ⟨?_, ?_, ?_⟩⟩
  · exact zA_ag hW.a hW.w (fun i hi _ => g i (by omega)) (fun s hs k hk => fo _ (by omega)) (fun p hp => ⟨fo _ (by omega), fo _ (by omega)⟩) (fun u hu k hk => fo _ (by omega))
  · exact zB_ag hW.b hW.w (g 1 (by omega)) (g 2 (by omega)) (fun s hs => fo _ (by omega)) (fun p hp => ⟨fo _ (by omega), fo _ (by omega)⟩)
  · exact zC_ag hW.c hW.w (g 1 (by omega)) (g 3 (by omega)) (fun s hs => ⟨fo _ (by omega), fo _ (by omega)⟩) (fun v hv => ⟨fo _ (by omega), fo _ (by omega), fo _ (by omega)⟩)
  · rw [g 5 (by omega), g 6 (by omega)]
    exact hW.d.h6
  · rw [g 4 (by omega)]
    exact hW.d.d4
  · intro p hp
    rw [n2] at hp
    by_cases c : p = n
    · rw [c]
      exact f1
    · rw [fo _ (by omega)]
      exact hW.d.ro p hp
/-- the day's end -/
theorem zW_day {e f : Nat → Int32} {b : Int} (hW : zW e b) (w : xr_W f) (f4 : 0 ≤ (f 4).toInt ∧ (f 4).toInt ≤ 1000) (f6 : (f 6).toInt = 0) (fo : ∀ j, j ≠ 4 → j ≠ 6 → f j = e j) : zW f b := by
  have g : ∀ i, i < 10 → i ≠ 4 → i ≠ 6 → f i = e i := fun i hi a c => fo i a c
  have bb := zn_b hW.w
  have n2 := zn_ag (g 2 (by omega) (by omega) (by omega))
  refine ⟨w, ?_, ?_, ?_, ⟨?_, f4, ?_⟩⟩
  · exact zA_ag hW.a hW.w (fun i hi h4 => g i (by omega) (by omega) (by omega)) (fun s hs k hk => fo _ (by omega) (by omega)) (fun p hp => ⟨fo _ (by omega) (by omega), fo _ (by omega) (by omega)⟩) (fun u hu k hk => fo _ (by omega) (by omega))
  · exact zB_ag hW.b hW.w (g 1 (by omega) (by omega) (by omega)) (g 2 (by omega) (by omega) (by omega)) (fun s hs => fo _ (by omega) (by omega)) (fun p hp => ⟨fo _ (by omega) (by omega), fo _ (by omega) (by omega)⟩)
  · exact zC_ag hW.c hW.w (g 1 (by omega) (by omega) (by omega)) (g 3 (by omega) (by omega) (by omega)) (fun s hs => ⟨fo _ (by omega) (by omega), fo _ (by omega) (by omega)⟩) (fun v hv => ⟨fo _ (by omega) (by omega), fo _ (by omega) (by omega), fo _ (by omega) (by omega)⟩)
  · have := hW.d.h6
    rw [g 5 (by omega) (by omega) (by omega), f6]
    omega
  · intro p hp
    rw [n2] at hp
    rw [fo _ (by omega) (by omega)]
    exact hW.d.ro p hp
