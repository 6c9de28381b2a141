section
/-! what a day's changes keep -/
theorem zW_lose {e f : Nat → Int32} {b : Int} {n v : Nat} (hW : zW e b) (hn : n < zn e 1) (h1 : e (10 + 7 * n + 4) = 1) (hv : v < zn e 3) (ho : (e (10 + 7 * n + 5)).toInt = v) (w : xr_W f) (f4 : f (10 + 7 * n + 4) = 2) (f5 : f (10 + 7 * n + 5) = Int32.ofInt (-1)) (fv : f (172 + 5 * v + 4) = 3) (fl : ∀ p, p < zn e 2 → f (52 + 5 * p + 4) = if (e (52 + 5 * p + 3)).toInt = n then 1 else e (52 + 5 * p + 4)) (fo : ∀ j, j ≠ 10 + 7 * n + 4 → j ≠ 10 + 7 * n + 5 → j ≠ 172 + 5 * v + 4 → ¬ (52 ≤ j ∧ j < 172 ∧ (j - 52) % 5 = 4) → f j = e j) : zW f b := by
  have bb := zn_b hW.w
  have g : ∀ i, i < 10 → f i = e i := fun i hi => fo i (by omega) (by omega) (by omega) (by omega)
  have n1 := zn_ag (g 1 (by omega))
  have n2 := zn_ag (g 2 (by omega))
  have n3 := zn_ag (g 3 (by omega))
  refine ⟨w, ?_, ⟨?_, ?_⟩, ⟨?_, ?_, ?_, ?_⟩, ?_⟩
  · exact zA_ag hW.a hW.w (fun i hi _ => g i (by omega)) (fun s hs k hk => fo _ (by omega) (by omega) (by omega) (by omega)) (fun p hp => ⟨fo _ (by omega) (by omega) (by omega) (by omega), fo _ (by omega) (by omega) (by omega) (by omega)⟩) (fun u hu k hk => fo _ (by omega) (by omega) (by omega) (by omega))
  · intro p hp
    rw [n2] at hp
    rw [fo _ (by omega) (by omega) (by omega) (by omega), g 1 (by omega)]
    exact hW.b.inn p hp
  · intro p hp
    rw [n2] at hp
    have i := hW.b.inn p hp
    have y : (e (52 + 5 * p + 3)).toNatClampNeg = (e (52 + 5 * p + 3)).toInt.toNat := rfl
    rw [fl p hp, fo (52 + 5 * p + 3) (by omega) (by omega) (by omega) (by omega)]
    by_cases c : (e (52 + 5 * p + 3)).toInt = n
    · rw [if_pos c, if_pos]
      refine ⟨by omega, ?_⟩
      rw [show (e (52 + 5 * p + 3)).toNatClampNeg = n from by omega]
      exact f4
    · rw [if_neg c, hW.b.lo p hp]
      by_cases d : 0 ≤ (e (52 + 5 * p + 3)).toInt
      · rw [fo (10 + 7 * (e (52 + 5 * p + 3)).toNatClampNeg + 4) (by omega) (by omega) (by omega) (by omega)]
      · rw [if_neg (fun z => d z.1), if_neg (fun z => d z.1)]
  · intro s hs
    rw [n1] at hs
    by_cases c : s = n
    · rw [c, f4]
      exact Or.inr (Or.inr rfl)
    · rw [fo _ (by omega) (by omega) (by omega) (by omega)]
      exact hW.c.st s hs
  · intro s hs e1
    rw [n1] at hs
    by_cases c : s = n
    · rw [c, f4] at e1
      exact absurd e1 (by decide)
    · rw [fo _ (by omega) (by omega) (by omega) (by omega)] at e1
      obtain ⟨u, a, b, cc, d, g'⟩ := hW.c.on s hs e1
      have nu : u ≠ v := by
        intro z
        obtain ⟨u2, a2, b2, c2, d2, g2⟩ := hW.c.on n hn h1
        have : u2 = v := by omega
        rw [z] at cc
        rw [this] at c2
        omega
      refine ⟨u, by rw [n3]; exact a, ?_, ?_, ?_, ?_⟩
      · rw [fo _ (by omega) (by omega) (by omega) (by omega)]
        exact b
      · rw [fo _ (by omega) (by omega) (by omega) (by omega)]
        exact cc
      · rw [fo _ (by omega) (by omega) (by omega) (by omega)]
        exact d
      · rw [fo _ (by omega) (by omega) (by omega) (by omega)]
        exact g'
  · intro s hs e1
    rw [n1] at hs
    by_cases c : s = n
    · rw [c, f5]
    · rw [fo _ (by omega) (by omega) (by omega) (by omega)] at e1
      rw [fo _ (by omega) (by omega) (by omega) (by omega)]
      exact hW.c.no s hs e1
  · intro u hu e1
    rw [n3] at hu
    by_cases c : u = v
    · rw [c, fv] at e1
      exact absurd e1 (by decide)
    · rw [fo _ (by omega) (by omega) (by omega) (by omega)] at e1
      obtain ⟨s, a, b, cc, d⟩ := hW.c.vc u hu e1
      have ns : s ≠ n := by
        intro z
        rw [z] at d
        omega
      refine ⟨s, by rw [n1]; exact a, ?_, ?_, ?_⟩
      · rw [fo _ (by omega) (by omega) (by omega) (by omega)]
        exact b
      · rw [fo _ (by omega) (by omega) (by omega) (by omega)]
        exact cc
      · rw [fo _ (by omega) (by omega) (by omega) (by omega)]
        exact d
  · exact zD_ag hW.d hW.w (g 2 (by omega)) (g 4 (by omega)) (g 5 (by omega)) (g 6 (by omega)) (fun p hp => fo _ (by omega) (by omega) (by omega) (by omega))
/-- a plank moved -/
theorem zW_put {e f : Nat → Int32} {b : Int} {n : Nat} {s : Int32} (hW : zW e b) (hn : n < zn e 2) (hs : -1 ≤ s.toInt ∧ s.toInt < (e 1).toInt) (hsl : 0 ≤ s.toInt → e (10 + 7 * s.toNatClampNeg + 4) ≠ 2) (hl : e (52 + 5 * n + 4) = 0) (h6 : (e 6).toInt < (e 5).toInt) (w : xr_W f) (f3 : f (52 + 5 * n + 3) = s) (f6 : (f 6).toInt = (e 6).toInt + 1) (fo : ∀ j, j ≠ 52 + 5 * n + 3 → j ≠ 6 → j ≠ 8 → f j = e j) : zW f b := by
  have bb := zn_b hW.w
  have g : ∀ i, i < 6 → f i = e i := fun i hi => fo i (by omega) (by omega) (by omega)
  have n2 := zn_ag (g 2 (by omega))
  refine ⟨w, ?_, ⟨?_, ?_⟩, ?_, ⟨?_, ?_, ?_⟩⟩
  · exact zA_ag hW.a hW.w (fun i hi _ => g i (by omega)) (fun s hs k hk => fo _ (by omega) (by omega) (by omega)) (fun p hp => ⟨fo _ (by omega) (by omega) (by omega), fo _ (by omega) (by omega) (by omega)⟩) (fun u hu k hk => fo _ (by omega) (by omega) (by omega))
  · intro p hp
    rw [n2] at hp
    rw [g 1 (by omega)]
    by_cases c : p = n
    · rw [c, f3]
      exact hs
    · rw [fo _ (by omega) (by omega) (by omega)]
      exact hW.b.inn p hp
  · intro p hp
    rw [n2] at hp
    rw [fo (52 + 5 * p + 4) (by omega) (by omega) (by omega)]
    by_cases c : p = n
    · rw [c, f3, hl, if_neg]
      intro z
      have y : s.toNatClampNeg = s.toInt.toNat := rfl
      rw [fo _ (by omega) (by omega) (by omega)] at z
      exact hsl z.1 z.2
    · have i := hW.b.inn p hp
      have y : (e (52 + 5 * p + 3)).toNatClampNeg = (e (52 + 5 * p + 3)).toInt.toNat := rfl
      rw [fo (52 + 5 * p + 3) (by omega) (by omega) (by omega), fo (10 + 7 * (e (52 + 5 * p + 3)).toNatClampNeg + 4) (by omega) (by omega) (by omega)]
      exact hW.b.lo p hp
  · exact zC_ag hW.c hW.w (g 1 (by omega)) (g 3 (by omega)) (fun s hs => ⟨fo _ (by omega) (by omega) (by omega), fo _ (by omega) (by omega) (by omega)⟩) (fun v hv => ⟨fo _ (by omega) (by omega) (by omega), fo _ (by omega) (by omega) (by omega), fo _ (by omega) (by omega) (by omega)⟩)
  · have := hW.d.h6
    rw [g 5 (by omega), f6]
    omega
  · rw [g 4 (by omega)]
    exact hW.d.d4
  · intro p hp
    rw [n2] at hp
    rw [fo _ (by omega) (by omega) (by omega)]
    exact hW.d.ro p hp
/-- a ship sets out -/
theorem zW_out {e f : Nat → Int32} {b : Int} {n v : Nat} (hW : zW e b) (hn : n < zn e 1) (h0 : e (10 + 7 * n + 4) = 0) (hv : v < zn e 3) (hs : (e (172 + 5 * v + 0)).toInt = n) (hb : b ≤ (e (172 + 5 * v + 2)).toInt) (w : xr_W f) (f4 : f (10 + 7 * n + 4) = 1) (f5 : (f (10 + 7 * n + 5)).toInt = v) (fv : f (172 + 5 * v + 4) = 1) (fo : ∀ j, j ≠ 10 + 7 * n + 4 → j ≠ 10 + 7 * n + 5 → j ≠ 172 + 5 * v + 4 → f j = e j) : zW f b := by
  have bb := zn_b hW.w
  have g : ∀ i, i < 10 → f i = e i := fun i hi => fo i (by omega) (by omega) (by omega)
  have n1 := zn_ag (g 1 (by omega))
  have n2 := zn_ag (g 2 (by omega))
  have n3 := zn_ag (g 3 (by omega))
  refine ⟨w, ?_, ⟨?_, ?_⟩, ⟨?_, ?_, ?_, ?_⟩, ?_⟩
  · exact zA_ag hW.a hW.w (fun i hi _ => g i (by omega)) (fun s hs k hk => fo _ (by omega) (by omega) (by omega)) (fun p hp => ⟨fo _ (by omega) (by omega) (by omega), fo _ (by omega) (by omega) (by omega)⟩) (fun u hu k hk => fo _ (by omega) (by omega) (by omega))
  · intro p hp
    rw [n2] at hp
    rw [fo _ (by omega) (by omega) (by omega), g 1 (by omega)]
    exact hW.b.inn p hp
  · intro p hp
    rw [n2] at hp
    have i := hW.b.inn p hp
    have y : (e (52 + 5 * p + 3)).toNatClampNeg = (e (52 + 5 * p + 3)).toInt.toNat := rfl
    rw [fo (52 + 5 * p + 4) (by omega) (by omega) (by omega), fo (52 + 5 * p + 3) (by omega) (by omega) (by omega), hW.b.lo p hp]
    by_cases d : 0 ≤ (e (52 + 5 * p + 3)).toInt
    · by_cases c : (e (52 + 5 * p + 3)).toNatClampNeg = n
      · rw [c, f4, h0, if_neg (fun z => absurd z.2 (by decide)), if_neg (fun z => absurd z.2 (by decide))]
      · rw [fo (10 + 7 * (e (52 + 5 * p + 3)).toNatClampNeg + 4) (by omega) (by omega) (by omega)]
    · rw [if_neg (fun z => d z.1), if_neg (fun z => d z.1)]
  · intro s hs
    rw [n1] at hs
    by_cases c : s = n
    · rw [c, f4]
      exact Or.inr (Or.inl rfl)
    · rw [fo _ (by omega) (by omega) (by omega)]
      exact hW.c.st s hs
  · intro s hs2 e1
    rw [n1] at hs2
    by_cases c : s = n
    · rw [c]
      exact ⟨v, by rw [n3]; exact hv, f5, by rw [fo _ (by omega) (by omega) (by omega)]; exact hs, fv, by rw [fo _ (by omega) (by omega) (by omega)]; exact hb⟩
    · rw [fo _ (by omega) (by omega) (by omega)] at e1
      obtain ⟨u, a, b, cc, d, g'⟩ := hW.c.on s hs2 e1
      have nu : u ≠ v := by
        intro z
        rw [z] at cc
        omega
      exact ⟨u, by rw [n3]; exact a, by rw [fo _ (by omega) (by omega) (by omega)]; exact b, by rw [fo _ (by omega) (by omega) (by omega)]; exact cc, by rw [fo _ (by omega) (by omega) (by omega)]; exact d, by rw [fo _ (by omega) (by omega) (by omega)]; exact g'⟩
  · intro s hs2 e1
    rw [n1] at hs2
    by_cases c : s = n
    · rw [c, f4] at e1
      exact absurd rfl e1
    · rw [fo _ (by omega) (by omega) (by omega)] at e1
      rw [fo _ (by omega) (by omega) (by omega)]
      exact hW.c.no s hs2 e1
  · intro u hu e1
    rw [n3] at hu
    by_cases c : u = v
    · rw [c]
      exact ⟨n, by rw [n1]; exact hn, by rw [fo _ (by omega) (by omega) (by omega)]; exact hs, f4, f5⟩
    · rw [fo _ (by omega) (by omega) (by omega)] at e1
      obtain ⟨s, a, b, cc, d⟩ := hW.c.vc u hu e1
      have ns : s ≠ n := by
        intro z
        rw [z, h0] at cc
        exact absurd cc (by decide)
      exact ⟨s, by rw [n1]; exact a, by rw [fo _ (by omega) (by omega) (by omega)]; exact b, by rw [fo _ (by omega) (by omega) (by omega)]; exact cc, by rw [fo _ (by omega) (by omega) (by omega)]; exact d⟩
  · exact zD_ag hW.d hW.w (g 2 (by omega)) (g 4 (by omega)) (g 5 (by omega)) (g 6 (by omega)) (fun p hp => fo _ (by omega) (by omega) (by omega))
/-- rot -/
theorem zW_rot {e f : Nat → Int32} {b : Int} {n : Nat} (hW : zW e b) (hn : n < 24) (w : xr_W f) (f1 : 0 ≤ (f (52 + 5 * n + 1)).toInt ∧ (f (52 + 5 * n + 1)).toInt ≤ 99) (fo : ∀ j, j ≠ 52 + 5 * n + 1 → f j = e j) : zW f b := by
  have g : ∀ i, i < 10 → f i = e i := fun i hi => fo i (by omega)
  have bb := zn_b hW.w
  have n2 := zn_ag (g 2 (by omega))
  refine ⟨w, ?_, ?_, ?_, ⟨?_, ?_, ?_⟩⟩
  · exact zA_ag hW.a hW.w (fun i hi _ => g i (by omega)) (fun s hs k hk => fo _ (by omega)) (fun p hp => ⟨fo _ (by omega), fo _ (by omega)⟩) (fun u hu k hk => fo _ (by omega))
  · exact zB_ag hW.b hW.w (g 1 (by omega)) (g 2 (by omega)) (fun s hs => fo _ (by omega)) (fun p hp => ⟨fo _ (by omega), fo _ (by omega)⟩)
  · exact zC_ag hW.c hW.w (g 1 (by omega)) (g 3 (by omega)) (fun s hs => ⟨fo _ (by omega), fo _ (by omega)⟩) (fun v hv => ⟨fo _ (by omega), fo _ (by omega), fo _ (by omega)⟩)
  · rw [g 5 (by omega), g 6 (by omega)]
    exact hW.d.h6
  · rw [g 4 (by omega)]
    exact hW.d.d4
  · intro p hp
    rw [n2] at hp
    by_cases c : p = n
    · rw [c]
      exact f1
    · rw [fo _ (by omega)]
      exact hW.d.ro p hp
/-- the day's end -/
theorem zW_day {e f : Nat → Int32} {b : Int} (hW : zW e b) (w : xr_W f) (f4 : 0 ≤ (f 4).toInt ∧ (f 4).toInt ≤ 1000) (f6 : (f 6).toInt = 0) (fo : ∀ j, j ≠ 4 → j ≠ 6 → f j = e j) : zW f b := by
  have g : ∀ i, i < 10 → i ≠ 4 → i ≠ 6 → f i = e i := fun i hi a c => fo i a c
  have bb := zn_b hW.w
  have n2 := zn_ag (g 2 (by omega) (by omega) (by omega))
  refine ⟨w, ?_, ?_, ?_, ⟨?_, f4, ?_⟩⟩
  · exact zA_ag hW.a hW.w (fun i hi h4 => g i (by omega) (by omega) (by omega)) (fun s hs k hk => fo _ (by omega) (by omega)) (fun p hp => ⟨fo _ (by omega) (by omega), fo _ (by omega) (by omega)⟩) (fun u hu k hk => fo _ (by omega) (by omega))
  · exact zB_ag hW.b hW.w (g 1 (by omega) (by omega) (by omega)) (g 2 (by omega) (by omega) (by omega)) (fun s hs => fo _ (by omega) (by omega)) (fun p hp => ⟨fo _ (by omega) (by omega), fo _ (by omega) (by omega)⟩)
  · exact zC_ag hW.c hW.w (g 1 (by omega) (by omega) (by omega)) (g 3 (by omega) (by omega) (by omega)) (fun s hs => ⟨fo _ (by omega) (by omega), fo _ (by omega) (by omega)⟩) (fun v hv => ⟨fo _ (by omega) (by omega), fo _ (by omega) (by omega), fo _ (by omega) (by omega)⟩)
  · have := hW.d.h6
    rw [g 5 (by omega) (by omega) (by omega), f6]
    omega
  · intro p hp
    rw [n2] at hp
    rw [fo _ (by omega) (by omega)]
    exact hW.d.ro p hp
end
section
/-! rot, loss, a plank moved: both sides -/
theorem z_nar : vp_nar .boolean (Int32.ofInt 1) = Int32.ofInt 1 := by decide
theorem zx_3 {a m k : Nat} {i : Int32} (ha : a < 1000) (hm : m < 1000) (hk : k < 1000) (h0 : 0 ≤ i.toInt) (h1 : i.toInt ≤ 1000) : ((Int32.ofInt (a : Int) + Int32.ofInt (m : Int) * i) + Int32.ofInt (k : Int)).toNatClampNeg = a + m * i.toNatClampNeg + k := xi_3 ha hm hk h0 h1
theorem zx_p1 {i : Int32} (h0 : 0 ≤ i.toInt) (h1 : i.toInt ≤ 1000) : ((Int32.ofInt 52 + Int32.ofInt 5 * i) + Int32.ofInt 1).toNatClampNeg = 52 + 5 * i.toNatClampNeg + 1 := zx_3 (a := 52) (m := 5) (k := 1) (by omega) (by omega) (by omega) h0 h1
theorem zx_p3 {i : Int32} (h0 : 0 ≤ i.toInt) (h1 : i.toInt ≤ 1000) : ((Int32.ofInt 52 + Int32.ofInt 5 * i) + Int32.ofInt 3).toNatClampNeg = 52 + 5 * i.toNatClampNeg + 3 := zx_3 (a := 52) (m := 5) (k := 3) (by omega) (by omega) (by omega) h0 h1
theorem zx_p4 {i : Int32} (h0 : 0 ≤ i.toInt) (h1 : i.toInt ≤ 1000) : ((Int32.ofInt 52 + Int32.ofInt 5 * i) + Int32.ofInt 4).toNatClampNeg = 52 + 5 * i.toNatClampNeg + 4 := zx_3 (a := 52) (m := 5) (k := 4) (by omega) (by omega) (by omega) h0 h1
theorem zx_s4 {i : Int32} (h0 : 0 ≤ i.toInt) (h1 : i.toInt ≤ 1000) : ((Int32.ofInt 10 + Int32.ofInt 7 * i) + Int32.ofInt 4).toNatClampNeg = 10 + 7 * i.toNatClampNeg + 4 := zx_3 (a := 10) (m := 7) (k := 4) (by omega) (by omega) (by omega) h0 h1
theorem zx_s5 {i : Int32} (h0 : 0 ≤ i.toInt) (h1 : i.toInt ≤ 1000) : ((Int32.ofInt 10 + Int32.ofInt 7 * i) + Int32.ofInt 5).toNatClampNeg = 10 + 7 * i.toNatClampNeg + 5 := zx_3 (a := 10) (m := 7) (k := 5) (by omega) (by omega) (by omega) h0 h1
theorem zx_s6 {i : Int32} (h0 : 0 ≤ i.toInt) (h1 : i.toInt ≤ 1000) : ((Int32.ofInt 10 + Int32.ofInt 7 * i) + Int32.ofInt 6).toNatClampNeg = 10 + 7 * i.toNatClampNeg + 6 := zx_3 (a := 10) (m := 7) (k := 6) (by omega) (by omega) (by omega) h0 h1
theorem zx_v4 {i : Int32} (h0 : 0 ≤ i.toInt) (h1 : i.toInt ≤ 1000) : ((Int32.ofInt 172 + Int32.ofInt 5 * i) + Int32.ofInt 4).toNatClampNeg = 172 + 5 * i.toNatClampNeg + 4 := zx_3 (a := 172) (m := 5) (k := 4) (by omega) (by omega) (by omega) h0 h1
theorem zx_i {e : Nat → Int32} {k : Nat} {i : Int32} (h1 : ¬ e k ≤ i) (h0 : 0 ≤ i.toInt) : (i + Int32.ofInt 1).toNatClampNeg = i.toNatClampNeg + 1 := by
  rw [zn_t, zn_t, lx_inc h1]
  omega
/-- the loop that marks a lost ship's planks -/
theorem zlo_R {q p : Nat → Nat} {s : Int32} (hq : zq q) : ∀ (c : Nat) (i : Int32) (Jc Jr : Nat → Nat → Int32), zR q Jc (Jr (p 4)) → xr_W (Jr (p 4)) → 0 ≤ i.toInt → zR q (x10_38 q s c i Jc) (x202_145 p s c i Jr (p 4)) := by
  intro c
  induction c with
  | zero => intro i Jc Jr hR hW h; exact hR
  | succ c ih =>
    intro i Jc Jr hR hW h
    rw [x10_38, x202_145, zR_n hR (by omega)]
    by_cases h1 : Jr (p 4) 2 ≤ i
    · rw [if_pos h1, if_pos h1]
      exact hR
    · rw [if_neg h1, if_neg h1]
      obtain ⟨hn, hi, c0, c1, c2, c3, c4, r0, r1, r2, r3, r4⟩ := zP hR hW h h1
      have b := zn_b hW
      rw [c3, r3]
      by_cases h3 : Jr (p 4) (52 + 5 * i.toNatClampNeg + 3) = s
      · rw [if_pos h3, if_pos h3]
        have hl : i.toNatClampNeg < 24 := by omega
        refine ih _ _ _ ?_ ?_ (zi_i h1 h)
        · rw [zx_p4 h (by omega), zu_r, z_nar]
          exact zR_up hq hR (by omega) (by omega) (zc_p4 _ hl)
        · rw [zx_p4 h (by omega)]
          exact xr_up hW (xr_any (xr_bp hl (by omega) (by omega) (by omega)))
      · rw [if_neg h3, if_neg h3]
        exact ih _ _ _ hR hW (zi_i h1 h)
theorem zlo_f {p : Nat → Nat} {s : Int32} : ∀ (c : Nat) (i : Int32) (J : Nat → Nat → Int32), xr_W (J (p 4)) → 0 ≤ i.toInt → (J (p 4) 2).toInt - i.toInt ≤ c → (∀ n, i.toNatClampNeg ≤ n → n < zn (J (p 4)) 2 → x202_145 p s c i J (p 4) (52 + 5 * n + 4) = if J (p 4) (52 + 5 * n + 3) = s then 1 else J (p 4) (52 + 5 * n + 4)) ∧ (∀ j, ¬ (52 + 5 * i.toNatClampNeg ≤ j ∧ j < 172 ∧ (j - 52) % 5 = 4) → x202_145 p s c i J (p 4) j = J (p 4) j) := by
  intro c
  induction c with
  | zero =>
    intro i J hW h hc
    refine ⟨fun n a b => ?_, fun j hj => rfl⟩
    have bb := zn_b hW
    have y : i.toNatClampNeg = i.toInt.toNat := rfl
    omega
  | succ c ih =>
    intro i J hW h hc
    have bb := zn_b hW
    have y : i.toNatClampNeg = i.toInt.toNat := rfl
    rw [x202_145]
    by_cases h1 : J (p 4) 2 ≤ i
    · rw [if_pos h1]
      have h2 := z_ge.mp h1
      refine ⟨fun n a b => ?_, fun j hj => rfl⟩
      omega
    · rw [if_neg h1]
      have x := zx bb.2.2.2.2.2.2.1 h h1
      have hl : i.toNatClampNeg < 24 := by omega
      rw [show x173 p i (Int32.ofInt 3) J = J (p 4) (52 + 5 * i.toNatClampNeg + 3) from zx_p (k := 3) h (by omega) (by omega)]
      have y1 := zx_i h1 h
      by_cases h3 : J (p 4) (52 + 5 * i.toNatClampNeg + 3) = s
      · rw [if_pos h3, zx_p4 h (by omega)]
        have z := ih (i + Int32.ofInt 1) (nt_u J (p 4) (52 + 5 * i.toNatClampNeg + 4) (Int32.ofInt 1)) (xr_up hW (xr_any (xr_bp hl (by omega) (by omega) (by omega)))) (zi_i h1 h) (by rw [me_uk (by omega)]; exact lx_dec h1 hc)
        rw [y1] at z
        refine ⟨fun n a b => ?_, fun j hj => ?_⟩
        · by_cases e : n = i.toNatClampNeg
          · rw [e, if_pos h3, z.2 _ (by omega), me_us]
            rfl
          · rw [z.1 n (by omega) (by unfold zn; rw [me_uk (by omega)]; exact b), me_uk (by omega), me_uk (by omega)]
        · rw [z.2 j (by omega), me_uk (by omega)]
      · rw [if_neg h3]
        have z := ih (i + Int32.ofInt 1) J hW (zi_i h1 h) (lx_dec h1 hc)
        rw [y1] at z
        refine ⟨fun n a b => ?_, fun j hj => ?_⟩
        · by_cases e : n = i.toNatClampNeg
          · rw [e, if_neg h3, z.2 _ (by omega)]
          · rw [z.1 n (by omega) b]
        · rw [z.2 j (by omega)]
theorem zu_c {e : Nat → Int32} {i j : Nat} {a b : Int32} (h : i ≠ j) : zu (zu e i a) j b = zu (zu e j b) i a := by
  funext k
  show (if k = j then b else if k = i then a else e k) = (if k = i then a else if k = j then b else e k)
  by_cases c : k = j
  · rw [if_pos c, if_neg (by omega), if_pos c]
  · rw [if_neg c, if_neg c]
theorem z_i3 {n : Nat} {x : Int32} (h : x.toInt = n) : x.toNatClampNeg = n := by
  rw [zn_t]
  omega
/-- a ship is lost -/
theorem zlose {q p : Nat → Nat} {s : Int32} {b : Int} {Jc Jr : Nat → Nat → Int32} (hq : zq q) (hR : zR q Jc (Jr (p 4))) (hW : zW (Jr (p 4)) b) (hs : 0 ≤ s.toInt ∧ s.toInt < (Jr (p 4) 1).toInt) (h1 : Jr (p 4) (10 + 7 * s.toNatClampNeg + 4) = 1) :
    zR q (x10 q s Jc) ((x202_145 p s (((nt_u (nt_u (nt_u Jr (p 4) ((((Int32.ofInt 10) + ((Int32.ofInt 7) * s)) + (Int32.ofInt 4)).toNatClampNeg) (Int32.ofInt 2)) (p 4) ((((Int32.ofInt 10) + ((Int32.ofInt 7) * s)) + (Int32.ofInt 5)).toNatClampNeg) (Int32.ofInt (-1))) (p 4) ((((Int32.ofInt 172) + ((Int32.ofInt 5) * (x169 p s (Int32.ofInt 5) Jr))) + (Int32.ofInt 4)).toNatClampNeg) (Int32.ofInt 3)) (p 4) 2).toNatClampNeg) (Int32.ofInt 0) (nt_u (nt_u (nt_u Jr (p 4) ((((Int32.ofInt 10) + ((Int32.ofInt 7) * s)) + (Int32.ofInt 4)).toNatClampNeg) (Int32.ofInt 2)) (p 4) ((((Int32.ofInt 10) + ((Int32.ofInt 7) * s)) + (Int32.ofInt 5)).toNatClampNeg) (Int32.ofInt (-1))) (p 4) ((((Int32.ofInt 172) + ((Int32.ofInt 5) * (x169 p s (Int32.ofInt 5) Jr))) + (Int32.ofInt 4)).toNatClampNeg) (Int32.ofInt 3))) (p 4)) ∧
    zW ((x202_145 p s (((nt_u (nt_u (nt_u Jr (p 4) ((((Int32.ofInt 10) + ((Int32.ofInt 7) * s)) + (Int32.ofInt 4)).toNatClampNeg) (Int32.ofInt 2)) (p 4) ((((Int32.ofInt 10) + ((Int32.ofInt 7) * s)) + (Int32.ofInt 5)).toNatClampNeg) (Int32.ofInt (-1))) (p 4) ((((Int32.ofInt 172) + ((Int32.ofInt 5) * (x169 p s (Int32.ofInt 5) Jr))) + (Int32.ofInt 4)).toNatClampNeg) (Int32.ofInt 3)) (p 4) 2).toNatClampNeg) (Int32.ofInt 0) (nt_u (nt_u (nt_u Jr (p 4) ((((Int32.ofInt 10) + ((Int32.ofInt 7) * s)) + (Int32.ofInt 4)).toNatClampNeg) (Int32.ofInt 2)) (p 4) ((((Int32.ofInt 10) + ((Int32.ofInt 7) * s)) + (Int32.ofInt 5)).toNatClampNeg) (Int32.ofInt (-1))) (p 4) ((((Int32.ofInt 172) + ((Int32.ofInt 5) * (x169 p s (Int32.ofInt 5) Jr))) + (Int32.ofInt 4)).toNatClampNeg) (Int32.ofInt 3))) (p 4)) b := by
  have bb := zn_b hW.w
  obtain ⟨sn, si, t4, t5, t6, u4, u5, u6⟩ := zS hR hW.w hs.1 hs.2
  obtain ⟨v, hv, ev, es, ec, eb⟩ := hW.c.on _ sn h1
  have nv : (Jr (p 4) (10 + 7 * s.toNatClampNeg + 5)).toNatClampNeg = v := z_i3 ev
  have e71 : ¬ x71 q (Jc (q 12) s.toNatClampNeg) Jc = 0 := by
    rw [t5]
    unfold x71
    rw [if_neg (fun c => by have := z_le0.mp c; omega), zR_n hR (by omega), if_neg (fun c => by have := z_ge.mp c; omega)]
    decide
  unfold x10
  rw [if_neg e71, t5, u5, nv, zx_s4 hs.1 (by omega), zx_s5 hs.1 (by omega), zx_v4 (by omega) (by omega), nv]
  have hR2 : zR q (nt_u (nt_u (nt_u Jc (q 16) v (Int32.ofInt 3)) (q 10) s.toNatClampNeg (Int32.ofInt 2)) (q 12) s.toNatClampNeg (Int32.ofInt (-1))) (nt_u (nt_u (nt_u Jr (p 4) (10 + 7 * s.toNatClampNeg + 4) (Int32.ofInt 2)) (p 4) (10 + 7 * s.toNatClampNeg + 5) (Int32.ofInt (-1))) (p 4) (172 + 5 * v + 4) (Int32.ofInt 3) (p 4)) := by
    rw [zu_r, zu_r, zu_r, zu_c (by omega), zu_c (i := 10 + 7 * s.toNatClampNeg + 4) (j := 172 + 5 * v + 4) (by omega)]
    exact zR_up hq (zR_up hq (zR_up hq hR (by omega) (by omega) (zc_v4 _ (by omega))) (by omega) (by omega) (zc_s4 _ (by omega))) (by omega) (by omega) (zc_s5 _ (by omega))
  have hW2 : xr_W (nt_u (nt_u (nt_u Jr (p 4) (10 + 7 * s.toNatClampNeg + 4) (Int32.ofInt 2)) (p 4) (10 + 7 * s.toNatClampNeg + 5) (Int32.ofInt (-1))) (p 4) (172 + 5 * v + 4) (Int32.ofInt 3) (p 4)) :=
    xr_up (xr_up (xr_up hW.w (xr_any (xr_bs (by omega) (by omega) (by omega)))) (by rw [xr_b5 (by omega)]; decide)) (xr_any (xr_bv (by omega) (by omega) (by omega)))
  refine ⟨?_, ?_⟩
  · have e2 := zR_n hR2 (i := 2) (by omega)
    rw [e2]
    exact zlo_R hq _ _ _ _ hR2 hW2 (by decide)
  · have z := zlo_f (p := p) (s := s) (((nt_u (nt_u (nt_u Jr (p 4) (10 + 7 * s.toNatClampNeg + 4) (Int32.ofInt 2)) (p 4) (10 + 7 * s.toNatClampNeg + 5) (Int32.ofInt (-1))) (p 4) (172 + 5 * v + 4) (Int32.ofInt 3)) (p 4) 2).toNatClampNeg) (Int32.ofInt 0) _ hW2 (by decide) (lx_beg (by decide))
    rw [show (Int32.ofInt 0).toNatClampNeg = 0 from rfl] at z
    refine zW_lose hW sn h1 hv ev (xw_202b ⟨hW2, fun _ _ => rfl⟩ (by decide)).1 ?_ ?_ ?_ ?_ ?_
    · rw [z.2 _ (by omega), me_uk (by omega), me_uk (by omega), me_us]
      rfl
    · rw [z.2 _ (by omega), me_uk (by omega), me_us]
    · rw [z.2 _ (by omega), me_us]
      rfl
    · intro m hm
      rw [z.1 m (by omega) (by unfold zn; rw [me_uk (by omega), me_uk (by omega), me_uk (by omega)]; exact hm), me_uk (by omega), me_uk (by omega), me_uk (by omega), me_uk (by omega), me_uk (by omega), me_uk (by omega)]
      by_cases c : Jr (p 4) (52 + 5 * m + 3) = s
      · rw [if_pos c, if_pos (by rw [c]; exact si)]
      · rw [if_neg c, if_neg]
        intro d
        apply c
        apply Int32.toInt_inj.mp
        omega
    · intro j a b c d
      rw [z.2 j (by omega), me_uk c, me_uk b, me_uk a]
/-- a plank moved -/
theorem zput {q p : Nat → Nat} {i s : Int32} {b : Int} {Jc Jr : Nat → Nat → Int32} (hq : zq q) (hR : zR q Jc (Jr (p 4))) (hW : zW (Jr (p 4)) b) (h : 0 ≤ i.toInt) (h1 : ¬ Jr (p 4) 2 ≤ i) (hs : -1 ≤ s.toInt ∧ s.toInt < (Jr (p 4) 1).toInt) (hsl : 0 ≤ s.toInt → Jr (p 4) (10 + 7 * s.toNatClampNeg + 4) ≠ 2) (hl : Jr (p 4) (52 + 5 * i.toNatClampNeg + 4) = 0) (h6 : (Jr (p 4) 6).toInt < (Jr (p 4) 5).toInt) : zR q (x74 q i s Jc) (x185 p i s Jr (p 4)) ∧ zW (x185 p i s Jr (p 4)) b := by
  have bb := zn_b hW.w
  obtain ⟨hn, hi, c0, c1, c2, c3, c4, r0, r1, r2, r3, r4⟩ := zP hR hW.w h h1
  have hl24 : i.toNatClampNeg < 24 := by omega
  have e6 : (Jr (p 4) 6 + Int32.ofInt 1).toInt = (Jr (p 4) 6).toInt + 1 := lx_inc (b := Jr (p 4) 5) (fun c => by have := z_ge.mp c; omega)
  have er : x185 p i s Jr (p 4) = zu (zu (zu (Jr (p 4)) (52 + 5 * i.toNatClampNeg + 3) s) 6 (Jr (p 4) 6 + Int32.ofInt 1)) 8 (Jr (p 4) 8 + Int32.ofInt 1) := by
    unfold x185
    rw [zx_p3 h (by omega), zu_r, zu_r, zu_r, zu_k (by omega), zu_k (by omega)]
  refine ⟨?_, ?_⟩
  · rw [er]
    unfold x74
    rw [zR_6 hR, zR_8 hR]
    exact zR_up hq (zR_up hq (zR_up hq hR (by omega) (by omega) (zc_p3 _ hl24)) (by omega) (by omega) rfl) (by omega) (by omega) rfl
  · refine zW_put hW hn hs hsl hl h6 (xw_185 (xk_r hW.w) ⟨h, by omega⟩ ⟨hs.1, by omega⟩).1.1 ?_ ?_ ?_
    · rw [er, zu_k (by omega), zu_k (by omega), zu_s]
    · rw [er, zu_k (by omega), zu_s, e6]
    · intro j a b c
      rw [er, zu_k c, zu_k b, zu_k a]
/-- one day's rot -/
theorem z_or {x : Int32} (h : x = 0 ∨ x = 1) : (x ||| Int32.ofInt 1 = 1) ∧ (x ||| Int32.ofInt 0 = x) := by
  rcases h with rfl | rfl <;> decide
theorem zrot_l {q p : Nat → Nat} {s : Int32} {b : Int} (hq : zq q) : ∀ (c : Nat) (v i : Int32) (Jc Jr : Nat → Nat → Int32), zR q Jc (Jr (p 4)) → zW (Jr (p 4)) b → (0 ≤ s.toInt ∧ s.toInt < (Jr (p 4) 1).toInt) → Jr (p 4) (10 + 7 * s.toNatClampNeg + 4) = 1 → (v = 0 ∨ v = 1) → 0 ≤ i.toInt → zR q (x9_4 q s c v i Jc) (x202_4 p s c v i Jr (p 4)) ∧ zW (x202_4 p s c v i Jr (p 4)) b := by
  have fin : ∀ (v : Int32) (Jc Jr : Nat → Nat → Int32), zR q Jc (Jr (p 4)) → zW (Jr (p 4)) b → (0 ≤ s.toInt ∧ s.toInt < (Jr (p 4) 1).toInt) → Jr (p 4) (10 + 7 * s.toNatClampNeg + 4) = 1 → zR q (if v = 0 then Jc else if (x2 q s ((Jc (q 0) 2) + (Int32.ofInt 1)) Jc) = 0 then (x10 q s Jc) else Jc) ((if v = 0 then Jr else if (x180 p (x169 p s (Int32.ofInt 5) Jr) (Int32.ofInt 2) Jr) = ((Jr (p 4) 4) + (Int32.ofInt 1)) then Jr else (x202_145 p s (((nt_u (nt_u (nt_u Jr (p 4) ((((Int32.ofInt 10) + ((Int32.ofInt 7) * s)) + (Int32.ofInt 4)).toNatClampNeg) (Int32.ofInt 2)) (p 4) ((((Int32.ofInt 10) + ((Int32.ofInt 7) * s)) + (Int32.ofInt 5)).toNatClampNeg) (Int32.ofInt (-1))) (p 4) ((((Int32.ofInt 172) + ((Int32.ofInt 5) * (x169 p s (Int32.ofInt 5) Jr))) + (Int32.ofInt 4)).toNatClampNeg) (Int32.ofInt 3)) (p 4) 2).toNatClampNeg) (Int32.ofInt 0) (nt_u (nt_u (nt_u Jr (p 4) ((((Int32.ofInt 10) + ((Int32.ofInt 7) * s)) + (Int32.ofInt 4)).toNatClampNeg) (Int32.ofInt 2)) (p 4) ((((Int32.ofInt 10) + ((Int32.ofInt 7) * s)) + (Int32.ofInt 5)).toNatClampNeg) (Int32.ofInt (-1))) (p 4) ((((Int32.ofInt 172) + ((Int32.ofInt 5) * (x169 p s (Int32.ofInt 5) Jr))) + (Int32.ofInt 4)).toNatClampNeg) (Int32.ofInt 3)))) (p 4)) ∧ zW ((if v = 0 then Jr else if (x180 p (x169 p s (Int32.ofInt 5) Jr) (Int32.ofInt 2) Jr) = ((Jr (p 4) 4) + (Int32.ofInt 1)) then Jr else (x202_145 p s (((nt_u (nt_u (nt_u Jr (p 4) ((((Int32.ofInt 10) + ((Int32.ofInt 7) * s)) + (Int32.ofInt 4)).toNatClampNeg) (Int32.ofInt 2)) (p 4) ((((Int32.ofInt 10) + ((Int32.ofInt 7) * s)) + (Int32.ofInt 5)).toNatClampNeg) (Int32.ofInt (-1))) (p 4) ((((Int32.ofInt 172) + ((Int32.ofInt 5) * (x169 p s (Int32.ofInt 5) Jr))) + (Int32.ofInt 4)).toNatClampNeg) (Int32.ofInt 3)) (p 4) 2).toNatClampNeg) (Int32.ofInt 0) (nt_u (nt_u (nt_u Jr (p 4) ((((Int32.ofInt 10) + ((Int32.ofInt 7) * s)) + (Int32.ofInt 4)).toNatClampNeg) (Int32.ofInt 2)) (p 4) ((((Int32.ofInt 10) + ((Int32.ofInt 7) * s)) + (Int32.ofInt 5)).toNatClampNeg) (Int32.ofInt (-1))) (p 4) ((((Int32.ofInt 172) + ((Int32.ofInt 5) * (x169 p s (Int32.ofInt 5) Jr))) + (Int32.ofInt 4)).toNatClampNeg) (Int32.ofInt 3)))) (p 4)) b := by
    intro v Jc Jr hR hW hs h1
    by_cases hv0 : v = 0
    · rw [if_pos hv0, if_pos hv0]
      exact ⟨hR, hW⟩
    · rw [if_neg hv0, if_neg hv0]
      have bb := zn_b hW.w
      obtain ⟨sn, si, t4, t5, t6, u4, u5, u6⟩ := zS hR hW.w hs.1 hs.2
      obtain ⟨w, hw, ew, es, ec, eb⟩ := hW.c.on _ sn h1
      have nw : (Jr (p 4) (10 + 7 * s.toNatClampNeg + 5)).toNatClampNeg = w := z_i3 ew
      obtain ⟨hn, hi, c0, c1, c2, c3, c4, r0, r1, r2, r3, r4⟩ := zV (i := Jr (p 4) (10 + 7 * s.toNatClampNeg + 5)) hR hW.w (by omega) (fun c => by have := z_ge.mp c; omega)
      have e71 : ¬ x71 q (Jr (p 4) (10 + 7 * s.toNatClampNeg + 5)) Jc = 0 := by
        unfold x71
        rw [if_neg (fun c => by have := z_le0.mp c; omega), zR_n hR (by omega), if_neg (fun c => by have := z_ge.mp c; omega)]
        decide
      have e2 : x2 q s ((Jc (q 0) 2) + (Int32.ofInt 1)) Jc = if (x180 p (x169 p s (Int32.ofInt 5) Jr) (Int32.ofInt 2) Jr) = ((Jr (p 4) 4) + (Int32.ofInt 1)) then Int32.ofInt 1 else Int32.ofInt 0 := by
        unfold x2
        rw [t5, if_neg e71, c2, zR_4 hR, u5, r2]
      rw [e2]
      by_cases h2 : (x180 p (x169 p s (Int32.ofInt 5) Jr) (Int32.ofInt 2) Jr) = ((Jr (p 4) 4) + (Int32.ofInt 1))
      · rw [if_pos h2, if_pos h2, if_neg (show ¬ Int32.ofInt 1 = 0 from by decide)]
        exact ⟨hR, hW⟩
      · rw [if_neg h2, if_neg h2, if_pos (show Int32.ofInt 0 = 0 from rfl)]
        exact zlose hq hR hW hs h1
  intro c
  induction c with
  | zero =>
    intro v i Jc Jr hR hW hs h1 hv h
    rw [x9_4, x202_4]
    exact fin v Jc Jr hR hW hs h1
  | succ c ih =>
    intro v i Jc Jr hR hW hs hs1 hv h
    rw [x9_4, x202_4, zR_n hR (by omega)]
    by_cases h1 : Jr (p 4) 2 ≤ i
    · rw [if_pos h1, if_pos h1]
      exact fin v Jc Jr hR hW hs hs1
    · rw [if_neg h1, if_neg h1]
      have bb := zn_b hW.w
      obtain ⟨hn, hi, c0, c1, c2, c3, c4, r0, r1, r2, r3, r4⟩ := zP hR hW.w h h1
      have hl24 : i.toNatClampNeg < 24 := by omega
      have si : s.toInt = s.toNatClampNeg := by rw [zn_t]; omega
      have hl : Jr (p 4) (52 + 5 * i.toNatClampNeg + 3) = s → Jr (p 4) (52 + 5 * i.toNatClampNeg + 4) = 0 := by
        intro e3
        rw [hW.b.lo _ hn, e3, hs1, if_neg (fun z => absurd z.2 (by decide))]
      rw [z_in r1 r3 r4 hl, c1, c3]
      by_cases h3 : Jr (p 4) (52 + 5 * i.toNatClampNeg + 3) = s
      · rw [if_pos h3, if_pos h3]
        by_cases h2 : Jr (p 4) (52 + 5 * i.toNatClampNeg + 1) ≤ 0
        · rw [if_pos h2, if_pos h2, if_pos rfl]
          exact ih _ _ _ _ hR hW hs hs1 hv (zi_i h1 h)
        · rw [if_neg h2, if_neg h2, if_neg (show ¬ (1 : Int32) = 0 from by decide), zx_p1 h (by omega)]
          have ro := hW.d.ro _ hn
          have p1 : 0 < (Jr (p 4) (52 + 5 * i.toNatClampNeg + 1)).toInt := by
            have : ¬ (Jr (p 4) (52 + 5 * i.toNatClampNeg + 1)).toInt ≤ 0 := fun z => h2 (z_ge.mpr z)
            omega
          have em : (Jr (p 4) (52 + 5 * i.toNatClampNeg + 1) - Int32.ofInt 1).toInt = (Jr (p 4) (52 + 5 * i.toNatClampNeg + 1)).toInt - 1 := by
            rw [Int32.toInt_sub, show (Int32.ofInt 1).toInt = 1 from by decide, Int.bmod_eq_of_le (by omega) (by omega)]
          have hR' : zR q (nt_u Jc (q 13) i.toNatClampNeg (Jr (p 4) (52 + 5 * i.toNatClampNeg + 1) - Int32.ofInt 1)) (nt_u Jr (p 4) (52 + 5 * i.toNatClampNeg + 1) (Jr (p 4) (52 + 5 * i.toNatClampNeg + 1) - Int32.ofInt 1) (p 4)) := by
            rw [zu_r]
            exact zR_up hq hR (by omega) (by omega) (zc_p1 _ hl24)
          have hW' : zW (nt_u Jr (p 4) (52 + 5 * i.toNatClampNeg + 1) (Jr (p 4) (52 + 5 * i.toNatClampNeg + 1) - Int32.ofInt 1) (p 4)) b :=
            zW_rot hW hl24 (xr_up hW.w (xr_any (xr_bp hl24 (by omega) (by omega) (by omega)))) (by rw [me_us, em]; omega) (fun j hj => me_uk hj)
          have ih' := fun v' hv' => ih v' (i + Int32.ofInt 1) _ _ hR' hW' (by rw [me_uk (by omega)]; exact hs) (by rw [me_uk (by omega)]; exact hs1) hv' (zi_i h1 h)
          have rd : x173 p i (Int32.ofInt 1) (nt_u Jr (p 4) (52 + 5 * i.toNatClampNeg + 1) (Jr (p 4) (52 + 5 * i.toNatClampNeg + 1) - Int32.ofInt 1)) = Jr (p 4) (52 + 5 * i.toNatClampNeg + 1) - Int32.ofInt 1 := by
            rw [show x173 p i (Int32.ofInt 1) (nt_u Jr (p 4) (52 + 5 * i.toNatClampNeg + 1) (Jr (p 4) (52 + 5 * i.toNatClampNeg + 1) - Int32.ofInt 1)) = _ from zx_p (k := 1) h (by omega) (by omega), me_us]
          rw [rd]
          by_cases z : (Jr (p 4) (52 + 5 * i.toNatClampNeg + 1) - Int32.ofInt 1) = 0
          · rw [if_pos z, if_pos z, (z_or hv).1]
            rcases hv with v0 | v1
            · rw [if_pos v0]
              exact ih' _ (Or.inr rfl)
            · rw [if_neg (by rw [v1]; decide)]
              exact ih' _ (Or.inr rfl)
          · rw [if_neg z, if_neg z, (z_or hv).2]
            rcases hv with v0 | v1
            · rw [if_pos v0, v0]
              exact ih' _ (Or.inl rfl)
            · rw [if_neg (by rw [v1]; decide), v1]
              exact ih' _ (Or.inr rfl)
      · rw [if_neg h3, if_neg h3, if_pos rfl]
        exact ih _ _ _ _ hR hW hs hs1 hv (zi_i h1 h)
theorem zrot {q p : Nat → Nat} {s : Int32} {b : Int} {Jc Jr : Nat → Nat → Int32} (hq : zq q) (hR : zR q Jc (Jr (p 4))) (hW : zW (Jr (p 4)) b) (hs : 0 ≤ s.toInt ∧ s.toInt < (Jr (p 4) 1).toInt) (h1 : Jr (p 4) (10 + 7 * s.toNatClampNeg + 4) = 1) : zR q (x9 q s Jc) (x202 p s Jr (p 4)) ∧ zW (x202 p s Jr (p 4)) b := by
  unfold x9 x202
  rw [zR_n hR (by omega)]
  exact zrot_l hq _ _ _ _ _ hR hW hs h1 (Or.inl rfl) (by decide)
end
section
/-! homecoming: both sides do the same events, in another order -/
/-- how many of the first planks are sound, in this ship, and of this kind -/
def zk (e : Nat → Int32) (s : Int32) (P : Int32 → Prop) [DecidablePred P] : Nat → Int32
  | 0 => 0
  | n + 1 => zk e s P n + (if e (52 + 5 * n + 3) = s then if e (52 + 5 * n + 1) ≤ 0 then 0 else if P (e (52 + 5 * n + 2)) then 1 else 0 else 0)
def zpl (e f : Nat → Int32) : Prop := ∀ n, n < 24 → f (52 + 5 * n + 1) = e (52 + 5 * n + 1) ∧ f (52 + 5 * n + 2) = e (52 + 5 * n + 2) ∧ f (52 + 5 * n + 3) = e (52 + 5 * n + 3)
theorem zk_ag {e f : Nat → Int32} {s : Int32} {P : Int32 → Prop} [DecidablePred P] (h : zpl e f) : ∀ n, n ≤ 24 → zk f s P n = zk e s P n := by
  intro n
  induction n with
  | zero => intro _; rfl
  | succ n ih =>
    intro hn
    rw [zk, zk, ih (by omega), (h n (by omega)).1, (h n (by omega)).2.1, (h n (by omega)).2.2]
/-- the class counts so -/
theorem zk_75l {q : Nat → Nat} {J : Nat → Nat → Int32} {e : Nat → Int32} {s o : Int32} (hR : zR q J e) (hW : xr_W e) : ∀ (c : Nat) (a i : Int32), 0 ≤ i.toInt → i.toInt ≤ (e 2).toInt → (e 2).toInt - i.toInt ≤ c → x75_5 q s o J c a i + zk e s (fun x => x = o) i.toNatClampNeg = a + zk e s (fun x => x = o) (zn e 2) := by
  have bb := zn_b hW
  intro c
  induction c with
  | zero =>
    intro a i h h2 hc
    rw [x75_5, show i.toNatClampNeg = zn e 2 from by rw [zn_t]; omega]
  | succ c ih =>
    intro a i h h2 hc
    rw [x75_5, zR_n hR (by omega)]
    by_cases h1 : e 2 ≤ i
    · rw [if_pos h1, show i.toNatClampNeg = zn e 2 from by rw [zn_t]; have := z_ge.mp h1; omega]
    · rw [if_neg h1]
      have x := zx bb.2.2.2.2.2.2.1 h h1
      have l : i.toNatClampNeg < 24 := by omega
      have st := fun a => ih a (i + Int32.ofInt 1) (zi_i h1 h) (by rw [lx_inc h1]; have := z_lt h1; omega) (lx_dec h1 hc)
      rw [zx_i h1 h] at st
      rw [zk] at st
      rw [zR_p hR x.1 l (by omega) (zc_p3 _ l), zR_p hR x.1 l (by omega) (zc_p1 _ l), zR_p hR x.1 l (by omega) (zc_p2 _ l)]
      by_cases h3 : e (52 + 5 * i.toNatClampNeg + 3) = s
      · rw [if_pos h3]
        simp only [if_pos h3] at st
        by_cases h4 : e (52 + 5 * i.toNatClampNeg + 1) ≤ 0
        · rw [if_pos h4]
          simp only [if_pos h4] at st
          have := st a
          grind
        · rw [if_neg h4]
          simp only [if_neg h4] at st
          by_cases h5 : e (52 + 5 * i.toNatClampNeg + 2) = o
          · rw [if_pos h5]
            simp only [if_pos h5] at st
            have := st (a + Int32.ofInt 1)
            rw [show Int32.ofInt 1 = 1 from rfl] at this ⊢
            grind
          · rw [if_neg h5]
            simp only [if_neg h5] at st
            have := st a
            grind
      · rw [if_neg h3]
        simp only [if_neg h3] at st
        have := st a
        grind
theorem zk_75 {q : Nat → Nat} {J : Nat → Nat → Int32} {e : Nat → Int32} {s o : Int32} (hR : zR q J e) (hW : xr_W e) : x75 q s o J = zk e s (fun x => x = o) (zn e 2) := by
  unfold x75
  have b := xr_2 hW
  have := zk_75l (s := s) (o := o) hR hW (e 2).toNatClampNeg (Int32.ofInt 0) (Int32.ofInt 0) (by decide) (by rw [show (Int32.ofInt 0).toInt = 0 from by decide]; omega) (lx_beg (by decide))
  rw [show (Int32.ofInt 0).toNatClampNeg = 0 from rfl, show zk e s (fun x => x = o) 0 = 0 from rfl, show Int32.ofInt 0 = 0 from rfl] at this
  rw [zR_n hR (by omega), show Int32.ofInt 0 = 0 from rfl]
  grind
/-- sums over owners -/
def zsm (f : Nat → Int32) : Nat → Int32
  | 0 => 0
  | n + 1 => zsm f n + f n
theorem zsm_add {f g : Nat → Int32} : ∀ n, zsm (fun i => f i + g i) n = zsm f n + zsm g n := by
  intro n
  induction n with
  | zero => rfl
  | succ n ih =>
    rw [zsm, zsm, zsm, ih]
    grind
theorem zsm_0 {f : Nat → Int32} : ∀ n, (∀ i, i < n → f i = 0) → zsm f n = 0 := by
  intro n
  induction n with
  | zero => intro _; rfl
  | succ n ih =>
    intro h
    rw [zsm, ih (fun i hi => h i (by omega)), h n (by omega)]
    rfl
theorem zsm_1 {f : Nat → Int32} {k : Nat} : ∀ n, k < n → (∀ i, i < n → i ≠ k → f i = 0) → zsm f n = f k := by
  intro n
  induction n with
  | zero => intro h; omega
  | succ n ih =>
    intro h g
    rw [zsm]
    by_cases e : k = n
    · rw [zsm_0 n (fun i hi => g i (by omega) (by omega)), e]
      grind
    · rw [ih (by omega) (fun i hi => g i (by omega)), g n (by omega) (by omega)]
      grind
theorem zi_n {x : Int32} {n : Nat} (hn : n < 1000) : x = Int32.ofInt (n : Int) ↔ x.toInt = n := by
  constructor
  · intro h
    rw [h, xi_k hn]
  · intro h
    apply Int32.toInt_inj.mp
    rw [h, xi_k hn]
/-- every plank is somebody's -/
theorem zk_sm {e : Nat → Int32} {s : Int32} (hA : zA e) (hW : xr_W e) : ∀ n, n ≤ zn e 2 → zsm (fun o => zk e s (fun x => x = Int32.ofInt (o : Int)) n) (zn e 1) = zk e s (fun _ => True) n := by
  have bb := zn_b hW
  intro n
  induction n with
  | zero =>
    intro _
    exact zsm_0 _ (fun i hi => rfl)
  | succ n ih =>
    intro hn
    have e1 := zsm_add (f := fun o => zk e s (fun x => x = Int32.ofInt (o : Int)) n) (g := fun (o : Nat) => (if e (52 + 5 * n + 3) = s then if e (52 + 5 * n + 1) ≤ 0 then 0 else if e (52 + 5 * n + 2) = Int32.ofInt (o : Int) then 1 else 0 else 0 : Int32)) (zn e 1)
    rw [show (fun (o : Nat) => zk e s (fun x => x = Int32.ofInt (o : Int)) (n + 1)) = (fun (o : Nat) => zk e s (fun x => x = Int32.ofInt (o : Int)) n + (if e (52 + 5 * n + 3) = s then if e (52 + 5 * n + 1) ≤ 0 then 0 else if e (52 + 5 * n + 2) = Int32.ofInt (o : Int) then 1 else 0 else 0 : Int32)) from rfl, e1, ih (by omega), zk]
    congr 1
    have ow := hA.ow n (by omega)
    by_cases h3 : e (52 + 5 * n + 3) = s
    · simp only [if_pos h3]
      by_cases h4 : e (52 + 5 * n + 1) ≤ 0
      · simp only [if_pos h4]
        exact zsm_0 _ (fun _ _ => rfl)
      · simp only [if_neg h4]
        have hk : (e (52 + 5 * n + 2)).toInt = (e (52 + 5 * n + 2)).toNatClampNeg := by
          rw [zn_t]
          omega
        have k6 : (e (52 + 5 * n + 2)).toNatClampNeg < zn e 1 := by omega
        rw [zsm_1 (k := (e (52 + 5 * n + 2)).toNatClampNeg) _ k6 (fun i hi ni => if_neg (fun c => ni (by
          have := (zi_n (by omega)).mp c
          omega))), if_pos ((zi_n (by omega)).mpr hk), if_pos trivial]
    · simp only [if_neg h3]
      exact zsm_0 _ (fun _ _ => rfl)
/-- an event: ship s is home from voyage v, owner o has g o more, the yard y -/
def zE (g : Nat → Int32) (y : Int32) (s v : Nat) (e : Nat → Int32) : Nat → Int32 := fun j =>
  if j = 10 + 7 * s + 4 then 0 else if j = 10 + 7 * s + 5 then Int32.ofInt (-1) else if j = 172 + 5 * v + 4 then 2 else if j = 7 then e j + y else if 10 ≤ j ∧ j < 52 ∧ (j - 10) % 7 = 6 then e j + g ((j - 10) / 7) else e j
theorem zE_comm {g g' : Nat → Int32} {y y' : Int32} {s s' v v' : Nat} {e : Nat → Int32} (hs : s < 6) (hs' : s' < 6) (hv : v < 8) (hv' : v' < 8) : zE g y s v (zE g' y' s' v' e) = zE g' y' s' v' (zE g y s v e) := by
  funext j
  unfold zE
  by_cases a1 : j = 10 + 7 * s + 4
  · by_cases b1 : j = 10 + 7 * s' + 4
    · rw [if_pos a1, if_pos b1]
    · rw [if_pos a1, if_neg b1, if_neg (by omega), if_neg (by omega), if_neg (by omega), if_neg (by omega), if_pos a1]
  · rw [if_neg a1, if_neg a1]
    by_cases a2 : j = 10 + 7 * s + 5
    · rw [if_pos a2, if_pos a2, if_neg (by omega)]
      by_cases b2 : j = 10 + 7 * s' + 5
      · rw [if_pos b2]
      · rw [if_neg b2, if_neg (by omega), if_neg (by omega), if_neg (by omega)]
    · rw [if_neg a2, if_neg a2]
      by_cases a3 : j = 172 + 5 * v + 4
      · rw [if_pos a3, if_pos a3, if_neg (by omega), if_neg (by omega)]
        by_cases b3 : j = 172 + 5 * v' + 4
        · rw [if_pos b3]
        · rw [if_neg b3, if_neg (by omega), if_neg (by omega)]
      · rw [if_neg a3, if_neg a3]
        by_cases b1 : j = 10 + 7 * s' + 4
        · rw [if_pos b1, if_neg (by omega), if_neg (by omega), if_pos b1]
        · rw [if_neg b1, if_neg b1]
          by_cases b2 : j = 10 + 7 * s' + 5
          · rw [if_pos b2, if_neg (by omega), if_neg (by omega), if_pos b2]
          · rw [if_neg b2, if_neg b2]
            by_cases b3 : j = 172 + 5 * v' + 4
            · rw [if_pos b3, if_neg (by omega), if_neg (by omega), if_pos b3]
            · rw [if_neg b3, if_neg b3]
              by_cases b4 : j = 7
              · simp only [if_pos b4]
                grind
              · simp only [if_neg b4]
                by_cases b5 : 10 ≤ j ∧ j < 52 ∧ (j - 10) % 7 = 6
                · simp only [if_pos b5]
                  grind
                · simp only [if_neg b5]
/-- what owners get -/
def zgn (e : Nat → Int32) (s : Int32) (pay part : Int32) (o : Nat) : Int32 := part * zk e s (fun x => x = Int32.ofInt (o : Int)) (zn e 2) + (if Int32.ofInt (o : Int) = s then pay - part * zk e s (fun _ => True) (zn e 2) else 0)
theorem zgn_ag {e f : Nat → Int32} {s pay part : Int32} (w : xr_W e) (h2 : f 2 = e 2) (h : zpl e f) : zgn f s pay part = zgn e s pay part := by
  have bb := zn_b w
  funext o
  unfold zgn
  rw [zn_ag h2, zk_ag h _ (by omega), zk_ag h _ (by omega)]
end
section
/-! an event, as the reference does it -/
theorem z_tn {x : Int32} (h : 0 ≤ x.toInt) : x.toInt = (x.toNatClampNeg : Nat) := by
  rw [zn_t]
  omega
def zc6 (j : Nat) : Prop := 10 ≤ j ∧ j < 52 ∧ (j - 10) % 7 = 6
theorem zh_r {p : Nat → Nat} {J : Nat → Nat → Int32} {v s pay part : Int32} (hw : xr_W (J (p 4))) (ha : zA (J (p 4))) (hv : 0 ≤ v.toInt ∧ ¬ J (p 4) 3 ≤ v) (es : x180 p v (Int32.ofInt 0) J = s) (ep : x180 p v (Int32.ofInt 3) J = pay) (ea : pay / (x170 p s J + Int32.ofInt 1) = part) (hl : zl (J (p 4)) s) : x191 p v J (p 4) = zE (zgn (J (p 4)) s pay part) pay s.toNatClampNeg v.toNatClampNeg (J (p 4)) := by
  have bb := zn_b hw
  have xv := zx bb.2.2.2.2.2.2.2 hv.1 hv.2
  have s0 : s = J (p 4) (172 + 5 * v.toNatClampNeg + 0) := by
    rw [← es]
    exact zx_v (k := 0) hv.1 (by omega) (by omega)
  have hvo := ha.vo _ xv.1
  rw [← s0] at hvo
  have si : s.toInt = s.toNatClampNeg := by rw [zn_t]; omega
  generalize he : J (p 4) = e at *
  have fin : ∀ (left : Int32) (J1 : Nat → Nat → Int32), (∀ j, ¬ zc6 j → J1 (p 4) j = e j) → (∀ o, o < 6 → J1 (p 4) (10 + 7 * o + 6) = e (10 + 7 * o + 6) + part * zk e s (fun x => x = Int32.ofInt (o : Int)) (zn e 2)) → left = pay - part * zk e s (fun _ => True) (zn e 2) → (nt_u (nt_u (nt_u (nt_u (nt_u J1 (p 4) ((((Int32.ofInt 10) + ((Int32.ofInt 7) * s)) + (Int32.ofInt 6)).toNatClampNeg) ((J1 (p 4) ((((Int32.ofInt 10) + ((Int32.ofInt 7) * s)) + (Int32.ofInt 6)).toNatClampNeg)) + left)) (p 4) 7 (((nt_u J1 (p 4) ((((Int32.ofInt 10) + ((Int32.ofInt 7) * s)) + (Int32.ofInt 6)).toNatClampNeg) ((J1 (p 4) ((((Int32.ofInt 10) + ((Int32.ofInt 7) * s)) + (Int32.ofInt 6)).toNatClampNeg)) + left)) (p 4) 7) + pay)) (p 4) ((((Int32.ofInt 10) + ((Int32.ofInt 7) * s)) + (Int32.ofInt 4)).toNatClampNeg) (Int32.ofInt 0)) (p 4) ((((Int32.ofInt 10) + ((Int32.ofInt 7) * s)) + (Int32.ofInt 5)).toNatClampNeg) (Int32.ofInt (-1))) (p 4) ((((Int32.ofInt 172) + ((Int32.ofInt 5) * v)) + (Int32.ofInt 4)).toNatClampNeg) (Int32.ofInt 2)) (p 4) = zE (zgn e s pay part) pay s.toNatClampNeg v.toNatClampNeg e := by
    intro left J1 h1 h2 h3
    rw [zx_s6 (by omega) (by omega), zx_s4 (by omega) (by omega), zx_s5 (by omega) (by omega), zx_v4 hv.1 (by omega), zu_r, zu_r, zu_r, zu_r, zu_r, zu_k (e := J1 (p 4)) (by omega), h1 7 (by unfold zc6; omega)]
    funext j
    unfold zE
    by_cases a1 : j = 10 + 7 * s.toNatClampNeg + 4
    · rw [if_pos a1, zu_k (by omega), zu_k (by omega), a1, zu_s]
      rfl
    · rw [if_neg a1]
      by_cases a2 : j = 10 + 7 * s.toNatClampNeg + 5
      · rw [if_pos a2, zu_k (by omega), a2, zu_s]
      · rw [if_neg a2]
        by_cases a3 : j = 172 + 5 * v.toNatClampNeg + 4
        · rw [if_pos a3, a3, zu_s]
          rfl
        · rw [if_neg a3, zu_k a3, zu_k a2, zu_k a1]
          by_cases a4 : j = 7
          · rw [if_pos a4, a4, zu_s]
          · rw [if_neg a4, zu_k a4]
            by_cases a5 : 10 ≤ j ∧ j < 52 ∧ (j - 10) % 7 = 6
            · rw [if_pos a5]
              have ej : j = 10 + 7 * ((j - 10) / 7) + 6 := by omega
              have o6 : (j - 10) / 7 < 6 := by omega
              have g := h2 _ o6
              rw [← ej] at g
              unfold zgn
              by_cases a6 : j = 10 + 7 * s.toNatClampNeg + 6
              · rw [if_pos ((Int32.toInt_inj.mp (by rw [xi_k (by omega)]; omega) : Int32.ofInt (((j - 10) / 7 : Nat) : Int) = s)), ← a6, zu_s, g, h3]
                grind
              · rw [zu_k a6, if_neg (fun c => a6 (by
                  have := congrArg Int32.toInt c
                  rw [xi_k (by omega)] at this
                  omega)), g]
                grind
            · rw [if_neg a5, zu_k (by omega), h1 j a5]
  unfold x191
  rw [es, ep, ea, he]
  refine x191_31_rule (I := fun c left i J1 => 0 ≤ i.toInt ∧ i.toInt ≤ (e 2).toInt ∧ (e 2).toInt - i.toInt ≤ c ∧ (∀ j, ¬ zc6 j → J1 (p 4) j = e j) ∧ (∀ o, o < 6 → J1 (p 4) (10 + 7 * o + 6) = e (10 + 7 * o + 6) + part * zk e s (fun x => x = Int32.ofInt (o : Int)) i.toNatClampNeg) ∧ left = pay - part * zk e s (fun _ => True) i.toNatClampNeg) (Q := fun J1 => J1 (p 4) = zE (zgn e s pay part) pay s.toNatClampNeg v.toNatClampNeg e) ?_ ?_ _ _ _ _ ?_
  · intro left i J1 h
    obtain ⟨a, b, c, d, g, k⟩ := h
    have ei : i.toNatClampNeg = zn e 2 := by rw [zn_t]; omega
    rw [ei] at g k
    exact fin left J1 d g k
  · intro c left i J1 h
    obtain ⟨a, b, cc, d, g, k⟩ := h
    have e2 : J1 (p 4) 2 = e 2 := d 2 (by unfold zc6; omega)
    rw [e2]
    by_cases h1 : e 2 ≤ i
    · rw [if_pos h1]
      have ei : i.toNatClampNeg = zn e 2 := by rw [zn_t]; have := z_ge.mp h1; omega
      rw [ei] at g k
      exact fin left J1 d g k
    · rw [if_neg h1]
      have x := zx bb.2.2.2.2.2.2.1 a h1
      have l24 : i.toNatClampNeg < 24 := by omega
      have i1 := zx_i h1 a
      have lt := z_lt h1
      have rd : ∀ k : Nat, k < 5 → x173 p i (Int32.ofInt (k : Int)) J1 = e (52 + 5 * i.toNatClampNeg + k) := by
        intro k hk
        rw [zx_p a (by omega) (by omega), d _ (by unfold zc6; omega)]
      have r1 : x173 p i (Int32.ofInt 1) J1 = _ := rd 1 (by omega)
      have r2 : x173 p i (Int32.ofInt 2) J1 = _ := rd 2 (by omega)
      have r3 : x173 p i (Int32.ofInt 3) J1 = _ := rd 3 (by omega)
      have r4 : x173 p i (Int32.ofInt 4) J1 = _ := rd 4 (by omega)
      rw [z_in r1 r3 r4 (hl _ x.1)]
      have zs : ∀ (P : Int32 → Prop) [DecidablePred P], zk e s P (i + Int32.ofInt 1).toNatClampNeg = zk e s P i.toNatClampNeg + (if e (52 + 5 * i.toNatClampNeg + 3) = s then if e (52 + 5 * i.toNatClampNeg + 1) ≤ 0 then 0 else if P (e (52 + 5 * i.toNatClampNeg + 2)) then 1 else 0 else 0) := by
        intro P _
        rw [i1, zk]
      have ow := ha.ow _ x.1
      by_cases h3 : e (52 + 5 * i.toNatClampNeg + 3) = s
      · simp only [if_pos h3] at zs ⊢
        by_cases h4 : e (52 + 5 * i.toNatClampNeg + 1) ≤ 0
        · simp only [if_pos h4] at zs ⊢
          rw [if_pos trivial]
          refine ⟨zi_i h1 a, by rw [lx_inc h1]; omega, lx_dec h1 cc, d, fun o ho => ?_, ?_⟩
          · rw [zs, g o ho]
            grind
          · rw [zs, k]
            grind
        · simp only [if_neg h4] at zs ⊢
          rw [if_neg (show ¬ (1 : Int32) = 0 from by decide), r2]
          have ok : (e (52 + 5 * i.toNatClampNeg + 2)).toInt = (e (52 + 5 * i.toNatClampNeg + 2)).toNatClampNeg := z_tn ow.1
          have o6 : (e (52 + 5 * i.toNatClampNeg + 2)).toNatClampNeg < 6 := by omega
          rw [zx_s6 ow.1 (by omega)]
          refine ⟨zi_i h1 a, by rw [lx_inc h1]; omega, lx_dec h1 cc, fun j hj => ?_, fun o ho => ?_, ?_⟩
          · rw [me_uk (by unfold zc6 at hj; omega), d j hj]
          · rw [zs]
            by_cases c1 : o = (e (52 + 5 * i.toNatClampNeg + 2)).toNatClampNeg
            · rw [if_pos ((zi_n (by omega)).mpr (by rw [ok, c1])), c1, me_us, g _ o6]
              grind
            · rw [if_neg (fun c2 => c1 (by have := (zi_n (by omega)).mp c2; omega)), me_uk (by omega), g o ho]
              grind
          · rw [zs, if_pos trivial, k]
            grind
      · simp only [if_neg h3] at zs ⊢
        rw [if_pos trivial]
        refine ⟨zi_i h1 a, by rw [lx_inc h1]; omega, lx_dec h1 cc, d, fun o ho => ?_, ?_⟩
        · rw [zs, g o ho]
          grind
        · rw [zs, k]
          grind
  · refine ⟨by decide, by rw [show (Int32.ofInt 0).toInt = 0 from by decide]; omega, lx_beg (by decide), fun j _ => by rw [he], fun o ho => ?_, ?_⟩
    · rw [show (Int32.ofInt 0).toNatClampNeg = 0 from rfl, zk, he]
      grind
    · rw [show (Int32.ofInt 0).toNatClampNeg = 0 from rfl, zk]
      grind
/-! .. and the class -/
theorem zv_ag {e f : Nat → Int32} {j : Nat} (h : ∀ i, i < 4 → f i = e i) : zv f j ↔ zv e j := by
  unfold zv
  rw [zn_ag (h 0 (by omega)), zn_ag (h 1 (by omega)), zn_ag (h 2 (by omega)), zn_ag (h 3 (by omega))]
theorem zsm_mul {f : Nat → Int32} {m : Int32} : ∀ n, zsm (fun i => m * f i) n = m * zsm f n := by
  intro n
  induction n with
  | zero =>
    rw [zsm, zsm]
    grind
  | succ n ih =>
    rw [zsm, zsm, ih]
    grind
def zG (e : Nat → Int32) (s part : Int32) (n : Nat) : Nat → Int32 := fun j => if 10 ≤ j ∧ j < 52 ∧ (j - 10) % 7 = 6 ∧ (j - 10) / 7 < n then e j + part * zk e s (fun x => x = Int32.ofInt (((j - 10) / 7 : Nat) : Int)) (zn e 2) else e j
theorem zG_o {e : Nat → Int32} {s part : Int32} {n j : Nat} (h : ¬ zc6 j) : zG e s part n j = e j := if_neg (fun c => h ⟨c.1, c.2.1, c.2.2.1⟩)
theorem zh_c {q : Nat → Nat} {J : Nat → Nat → Int32} {e : Nat → Int32} {s pay part : Int32} {v : Nat} (hq : zq q) (hR : zR q J e) (hw : xr_W e) (ha : zA e) (hs : 0 ≤ s.toInt ∧ s.toInt < (e 1).toInt) (hv : v < zn e 3) (ho : (e (10 + 7 * s.toNatClampNeg + 5)).toInt = v) (ep : e (172 + 5 * v + 3) = pay) (ea : pay / (x66 q s J + Int32.ofInt 1) = part) : zR q (x3 q s J) (zE (zgn e s pay part) pay s.toNatClampNeg v e) := by
  have bb := zn_b hw
  have si : s.toInt = s.toNatClampNeg := by rw [zn_t]; omega
  have sn : s.toNatClampNeg < zn e 1 := by omega
  have nv := z_i3 ho
  have e12 : J (q 12) s.toNatClampNeg = e (10 + 7 * s.toNatClampNeg + 5) := zR_s hR sn (by omega) (by omega) (by omega) (zc_s5 _ (by omega))
  have e9 : J (q 9) v = pay := by rw [zR_v hR hv (by omega) (by omega) (zc_v3 _ (by omega)), ep]
  have fin : ∀ (left : Int32) (J1 : Nat → Nat → Int32), zR q J1 (zG e s part (zn e 1)) → left = pay - zsm (fun o => part * zk e s (fun x => x = Int32.ofInt (o : Int)) (zn e 2)) (zn e 1) → zR q (nt_u (nt_u (nt_u (nt_u (nt_u J1 (q 11) s.toNatClampNeg ((J1 (q 11) s.toNatClampNeg) + left)) (q 0) 5 ((J1 (q 0) 5) + pay)) (q 16) (e (10 + 7 * s.toNatClampNeg + 5)).toNatClampNeg (Int32.ofInt 2)) (q 10) s.toNatClampNeg (Int32.ofInt 0)) (q 12) s.toNatClampNeg (Int32.ofInt (-1))) (zE (zgn e s pay part) pay s.toNatClampNeg v e) := by
    intro left J1 h1 h2
    have n1 : zn (zG e s part (zn e 1)) 1 = zn e 1 := zn_ag (zG_o (by unfold zc6; omega))
    have e11 : J1 (q 11) s.toNatClampNeg = zG e s part (zn e 1) (10 + 7 * s.toNatClampNeg + 6) := zR_s h1 (by rw [n1]; exact sn) (by omega) (by omega) (by omega) (zc_s6 _ (by omega))
    rw [e11, zR_7 h1, nv]
    have z := zR_up (v := Int32.ofInt (-1)) hq (zR_up (v := Int32.ofInt 0) hq (zR_up (v := Int32.ofInt 2) hq (zR_up (v := zG e s part (zn e 1) 7 + pay) hq (zR_up (v := zG e s part (zn e 1) (10 + 7 * s.toNatClampNeg + 6) + left) hq h1 (by omega) (by omega) (zc_s6 s.toNatClampNeg (by omega))) (j := 7) (by omega) (by omega) rfl) (by omega) (by omega) (zc_v4 v (by omega))) (by omega) (by omega) (zc_s4 s.toNatClampNeg (by omega))) (by omega) (by omega) (zc_s5 s.toNatClampNeg (by omega))
    have er : ∀ j, zv e j → zu (zu (zu (zu (zu (zG e s part (zn e 1)) (10 + 7 * s.toNatClampNeg + 6) (zG e s part (zn e 1) (10 + 7 * s.toNatClampNeg + 6) + left)) 7 (zG e s part (zn e 1) 7 + pay)) (172 + 5 * v + 4) (Int32.ofInt 2)) (10 + 7 * s.toNatClampNeg + 4) (Int32.ofInt 0)) (10 + 7 * s.toNatClampNeg + 5) (Int32.ofInt (-1)) j = zE (zgn e s pay part) pay s.toNatClampNeg v e j := by
      intro j hj
      unfold zE
      by_cases a1 : j = 10 + 7 * s.toNatClampNeg + 4
      · rw [if_pos a1, zu_k (by omega), a1, zu_s]
        rfl
      · rw [if_neg a1]
        by_cases a2 : j = 10 + 7 * s.toNatClampNeg + 5
        · rw [if_pos a2, a2, zu_s]
        · rw [if_neg a2, zu_k a2, zu_k a1]
          by_cases a3 : j = 172 + 5 * v + 4
          · rw [if_pos a3, a3, zu_s]
            rfl
          · rw [if_neg a3, zu_k a3]
            by_cases a4 : j = 7
            · rw [if_pos a4, a4, zu_s, zG_o (by unfold zc6; omega)]
            · rw [if_neg a4, zu_k a4]
              by_cases a5 : 10 ≤ j ∧ j < 52 ∧ (j - 10) % 7 = 6
              · rw [if_pos a5]
                have ej : j = 10 + 7 * ((j - 10) / 7) + 6 := by omega
                have on1 : (j - 10) / 7 < zn e 1 := by
                  unfold zv at hj
                  omega
                have g : zG e s part (zn e 1) j = e j + part * zk e s (fun x => x = Int32.ofInt (((j - 10) / 7 : Nat) : Int)) (zn e 2) := if_pos ⟨a5.1, a5.2.1, a5.2.2, on1⟩
                unfold zgn
                by_cases a6 : j = 10 + 7 * s.toNatClampNeg + 6
                · rw [if_pos ((Int32.toInt_inj.mp (by rw [xi_k (by omega)]; omega) : Int32.ofInt (((j - 10) / 7 : Nat) : Int) = s)), ← a6, zu_s, g, h2, zsm_mul, zk_sm ha hw _ (by omega)]
                  grind
                · rw [zu_k a6, if_neg (fun c => a6 (by
                    have := congrArg Int32.toInt c
                    rw [xi_k (by omega)] at this
                    omega)), g]
                  grind
              · rw [if_neg a5, zu_k (by omega), zG_o a5]
    have c0 : ∀ i, i < 4 → zu (zu (zu (zu (zu (zG e s part (zn e 1)) (10 + 7 * s.toNatClampNeg + 6) (zG e s part (zn e 1) (10 + 7 * s.toNatClampNeg + 6) + left)) 7 (zG e s part (zn e 1) 7 + pay)) (172 + 5 * v + 4) (Int32.ofInt 2)) (10 + 7 * s.toNatClampNeg + 4) (Int32.ofInt 0)) (10 + 7 * s.toNatClampNeg + 5) (Int32.ofInt (-1)) i = e i ∧ zE (zgn e s pay part) pay s.toNatClampNeg v e i = e i := by
      intro i hi
      have t := er i (Or.inl (by omega))
      have t2 : zE (zgn e s pay part) pay s.toNatClampNeg v e i = e i := by
        unfold zE
        rw [if_neg (by omega), if_neg (by omega), if_neg (by omega), if_neg (by omega), if_neg (by omega)]
      exact ⟨t.trans t2, t2⟩
    refine ⟨fun j hj => ?_, ?_⟩
    · have hj' : zv e j := (zv_ag (fun i hi => (c0 i hi).2)).mp hj
      rw [← er j hj']
      exact z.1 j ((zv_ag (fun i hi => (c0 i hi).1)).mpr hj')
    · rw [z.2, (c0 0 (by omega)).1, (c0 0 (by omega)).2]
  unfold x3
  rw [e12, nv, e9, ea, zR_n hR (by omega)]
  have nv' : v = (e (10 + 7 * s.toNatClampNeg + 5)).toNatClampNeg := nv.symm
  refine x3_34_rule (I := fun c left i J1 => 0 ≤ i.toInt ∧ i.toInt ≤ (e 1).toInt ∧ (e 1).toInt - i.toInt ≤ c ∧ zR q J1 (zG e s part i.toNatClampNeg) ∧ left = pay - zsm (fun o => part * zk e s (fun x => x = Int32.ofInt (o : Int)) (zn e 2)) i.toNatClampNeg) (Q := fun J1 => zR q J1 (zE (zgn e s pay part) pay s.toNatClampNeg v e)) ?_ ?_ _ _ _ _ ?_
  · intro left i J1 h
    obtain ⟨a, b, c, d, g⟩ := h
    have ei : i.toNatClampNeg = zn e 1 := by rw [zn_t]; omega
    rw [ei] at d g
    exact fin left J1 d g
  · intro c left i J1 h
    obtain ⟨a, b, cc, d, g⟩ := h
    rw [show J1 (q 1) 1 = e 1 from (zR_n d (by omega)).trans (zG_o (by unfold zc6; omega))]
    by_cases h1 : e 1 ≤ i
    · rw [if_pos h1]
      have ei : i.toNatClampNeg = zn e 1 := by rw [zn_t]; have := z_ge.mp h1; omega
      rw [ei] at d g
      exact fin left J1 d g
    · rw [if_neg h1]
      have x := zx bb.2.2.2.2.2.1 a h1
      have i1 := zx_i h1 a
      have lt := z_lt h1
      have n1 : zn (zG e s part i.toNatClampNeg) 1 = zn e 1 := zn_ag (zG_o (by unfold zc6; omega))
      have n2 : zn (zG e s part i.toNatClampNeg) 2 = zn e 2 := zn_ag (zG_o (by unfold zc6; omega))
      have wG : xr_W (zG e s part i.toNatClampNeg) := by
        intro j
        by_cases c6 : zc6 j
        · have : xr_b j = (-2147483648, 2147483647) := by
            have ej : j = 10 + 7 * ((j - 10) / 7) + 6 := by unfold zc6 at c6; omega
            rw [ej]
            exact xr_bs (by unfold zc6 at c6; omega) (by omega) (by omega)
          exact xr_any this
        · rw [zG_o c6]
          exact hw j
      have e75 : x75 q s i J1 = zk e s (fun x => x = Int32.ofInt ((i.toNatClampNeg : Nat) : Int)) (zn e 2) := by
        rw [zk_75 d wG, n2]
        have ei : Int32.ofInt ((i.toNatClampNeg : Nat) : Int) = i := Int32.toInt_inj.mp (by rw [xi_k (by omega)]; omega)
        rw [ei]
        exact zk_ag (fun n hn => ⟨zG_o (by unfold zc6; omega), zG_o (by unfold zc6; omega), zG_o (by unfold zc6; omega)⟩) _ (by omega)
      have e11 : J1 (q 11) i.toNatClampNeg = e (10 + 7 * i.toNatClampNeg + 6) := by
        rw [zR_s d (by rw [n1]; exact x.1) (by omega) (by omega) (by omega) (zc_s6 _ (by omega))]
        exact if_neg (by omega)
      rw [e75, e11]
      refine ⟨zi_i h1 a, by rw [lx_inc h1]; omega, lx_dec h1 cc, ?_, ?_⟩
      · rw [i1]
        have z := zR_up (v := e (10 + 7 * i.toNatClampNeg + 6) + part * zk e s (fun x => x = Int32.ofInt ((i.toNatClampNeg : Nat) : Int)) (zn e 2)) hq d (by omega) (by omega) (zc_s6 i.toNatClampNeg (by omega))
        have ez : zu (zG e s part i.toNatClampNeg) (10 + 7 * i.toNatClampNeg + 6) (e (10 + 7 * i.toNatClampNeg + 6) + part * zk e s (fun x => x = Int32.ofInt ((i.toNatClampNeg : Nat) : Int)) (zn e 2)) = zG e s part (i.toNatClampNeg + 1) := by
          funext j
          by_cases c1 : j = 10 + 7 * i.toNatClampNeg + 6
          · rw [c1, zu_s]
            have : (10 + 7 * i.toNatClampNeg + 6 - 10) / 7 = i.toNatClampNeg := by omega
            unfold zG
            rw [if_pos (by omega), this]
          · rw [zu_k c1]
            unfold zG
            by_cases c2 : 10 ≤ j ∧ j < 52 ∧ (j - 10) % 7 = 6 ∧ (j - 10) / 7 < i.toNatClampNeg
            · rw [if_pos c2, if_pos (by omega)]
            · rw [if_neg c2, if_neg (by omega)]
        rw [ez] at z
        exact z
      · rw [i1, zsm, g]
        grind
  · refine ⟨by decide, by rw [show (Int32.ofInt 0).toInt = 0 from by decide]; omega, lx_beg (by decide), ?_, ?_⟩
    · have : zG e s part (Int32.ofInt 0).toNatClampNeg = e := by
        funext j
        exact if_neg (fun c => by
          have c := c.2.2.2
          rw [show (Int32.ofInt 0).toNatClampNeg = 0 from rfl] at c
          omega)
      rw [this]
      exact hR
    · rw [show (Int32.ofInt 0).toNatClampNeg = 0 from rfl, zsm]
      grind
end
section
/-! homecoming: the loops -/
theorem zk_66l {q : Nat → Nat} {J : Nat → Nat → Int32} {e : Nat → Int32} {s : Int32} (hR : zR q J e) (hW : xr_W e) : ∀ (c : Nat) (a i : Int32), 0 ≤ i.toInt → i.toInt ≤ (e 2).toInt → (e 2).toInt - i.toInt ≤ c → x66_4 q s J c a i + zk e s (fun _ => True) i.toNatClampNeg = a + zk e s (fun _ => True) (zn e 2) := by
  have bb := zn_b hW
  intro c
  induction c with
  | zero =>
    intro a i h h2 hc
    rw [x66_4, show i.toNatClampNeg = zn e 2 from by rw [zn_t]; omega]
  | succ c ih =>
    intro a i h h2 hc
    rw [x66_4, zR_n hR (by omega)]
    by_cases h1 : e 2 ≤ i
    · rw [if_pos h1, show i.toNatClampNeg = zn e 2 from by rw [zn_t]; have := z_ge.mp h1; omega]
    · rw [if_neg h1]
      have x := zx bb.2.2.2.2.2.2.1 h h1
      have l : i.toNatClampNeg < 24 := by omega
      have st := fun a => ih a (i + Int32.ofInt 1) (zi_i h1 h) (by rw [lx_inc h1]; have := z_lt h1; omega) (lx_dec h1 hc)
      rw [zx_i h1 h] at st
      rw [zk] at st
      rw [zR_p hR x.1 l (by omega) (zc_p3 _ l), zR_p hR x.1 l (by omega) (zc_p1 _ l)]
      by_cases h3 : e (52 + 5 * i.toNatClampNeg + 3) = s
      · rw [if_pos h3]
        simp only [if_pos h3] at st
        by_cases h4 : e (52 + 5 * i.toNatClampNeg + 1) ≤ 0
        · rw [if_pos h4]
          simp only [if_pos h4] at st
          have := st a
          grind
        · rw [if_neg h4]
          simp only [if_neg h4, if_pos trivial] at st
          have := st (a + Int32.ofInt 1)
          rw [show Int32.ofInt 1 = 1 from rfl] at this ⊢
          grind
      · rw [if_neg h3]
        simp only [if_neg h3] at st
        have := st a
        grind
theorem zk_66 {q : Nat → Nat} {J : Nat → Nat → Int32} {e : Nat → Int32} {s : Int32} (hR : zR q J e) (hW : xr_W e) : x66 q s J = zk e s (fun _ => True) (zn e 2) := by
  unfold x66
  have b := xr_2 hW
  have := zk_66l (s := s) hR hW (e 2).toNatClampNeg (Int32.ofInt 0) (Int32.ofInt 0) (by decide) (by rw [show (Int32.ofInt 0).toInt = 0 from by decide]; omega) (lx_beg (by decide))
  rw [show (Int32.ofInt 0).toNatClampNeg = 0 from rfl, show zk e s (fun _ => True) 0 = 0 from rfl, show Int32.ofInt 0 = 0 from rfl] at this
  rw [zR_n hR (by omega), show Int32.ofInt 0 = 0 from rfl]
  grind
theorem zk_170l {p : Nat → Nat} {J : Nat → Nat → Int32} {s : Int32} (hW : xr_W (J (p 4))) (hl : zl (J (p 4)) s) : ∀ (c : Nat) (a i : Int32), 0 ≤ i.toInt → i.toInt ≤ (J (p 4) 2).toInt → (J (p 4) 2).toInt - i.toInt ≤ c → x170_4 p s J c a i + zk (J (p 4)) s (fun _ => True) i.toNatClampNeg = a + zk (J (p 4)) s (fun _ => True) (zn (J (p 4)) 2) := by
  have bb := zn_b hW
  intro c
  induction c with
  | zero =>
    intro a i h h2 hc
    rw [x170_4, show i.toNatClampNeg = zn (J (p 4)) 2 from by rw [zn_t]; omega]
  | succ c ih =>
    intro a i h h2 hc
    rw [x170_4]
    by_cases h1 : J (p 4) 2 ≤ i
    · rw [if_pos h1, show i.toNatClampNeg = zn (J (p 4)) 2 from by rw [zn_t]; have := z_ge.mp h1; omega]
    · rw [if_neg h1]
      have x := zx bb.2.2.2.2.2.2.1 h h1
      have l : i.toNatClampNeg < 24 := by omega
      have st := fun a => ih a (i + Int32.ofInt 1) (zi_i h1 h) (by rw [lx_inc h1]; have := z_lt h1; omega) (lx_dec h1 hc)
      rw [zx_i h1 h] at st
      rw [zk] at st
      have r1 : x173 p i (Int32.ofInt 1) J = _ := zx_p (k := 1) h (by omega) (by omega)
      have r3 : x173 p i (Int32.ofInt 3) J = _ := zx_p (k := 3) h (by omega) (by omega)
      have r4 : x173 p i (Int32.ofInt 4) J = _ := zx_p (k := 4) h (by omega) (by omega)
      rw [z_in r1 r3 r4 (hl _ x.1)]
      by_cases h3 : J (p 4) (52 + 5 * i.toNatClampNeg + 3) = s
      · simp only [if_pos h3] at st ⊢
        by_cases h4 : J (p 4) (52 + 5 * i.toNatClampNeg + 1) ≤ 0
        · simp only [if_pos h4] at st ⊢
          rw [if_pos trivial, z_add0]
          have := st a
          grind
        · simp only [if_neg h4, if_pos trivial] at st ⊢
          rw [if_neg (show ¬ (1 : Int32) = 0 from by decide)]
          have := st (a + Int32.ofInt 1)
          rw [show Int32.ofInt 1 = 1 from rfl] at this ⊢
          grind
      · simp only [if_neg h3] at st ⊢
        rw [if_pos trivial, z_add0]
        have := st a
        grind
theorem zk_170 {p : Nat → Nat} {J : Nat → Nat → Int32} {s : Int32} (hW : xr_W (J (p 4))) (hl : zl (J (p 4)) s) : x170 p s J = zk (J (p 4)) s (fun _ => True) (zn (J (p 4)) 2) := by
  unfold x170
  have b := xr_2 hW
  have := zk_170l (s := s) hW hl (J (p 4) 2).toNatClampNeg (Int32.ofInt 0) (Int32.ofInt 0) (by decide) (by rw [show (Int32.ofInt 0).toInt = 0 from by decide]; omega) (lx_beg (by decide))
  rw [show (Int32.ofInt 0).toNatClampNeg = 0 from rfl, show zk (J (p 4)) s (fun _ => True) 0 = 0 from rfl, show Int32.ofInt 0 = 0 from rfl] at this
  rw [show Int32.ofInt 0 = 0 from rfl]
  grind
/-- an event by the first row's numbers -/
def zpart (e : Nat → Int32) (x : Nat × Nat) : Int32 := e (172 + 5 * x.2 + 3) / (zk e (Int32.ofInt (x.1 : Int)) (fun _ => True) (zn e 2) + Int32.ofInt 1)
def zev (e0 : Nat → Int32) (e : Nat → Int32) (x : Nat × Nat) : Nat → Int32 := zE (zgn e0 (Int32.ofInt (x.1 : Int)) (e0 (172 + 5 * x.2 + 3)) (zpart e0 x)) (e0 (172 + 5 * x.2 + 3)) x.1 x.2 e
def zF (e0 : Nat → Int32) (l : List (Nat × Nat)) : Nat → Int32 := l.foldl (zev e0) e0
/-- cells that no event writes -/
def zcst (j : Nat) : Prop := j ≠ 7 ∧ ¬ (10 ≤ j ∧ j < 52 ∧ 4 ≤ (j - 10) % 7) ∧ ¬ (172 ≤ j ∧ (j - 172) % 5 = 4)
theorem zE_o {g : Nat → Int32} {y : Int32} {s v : Nat} {e : Nat → Int32} {j : Nat} (h1 : j ≠ 10 + 7 * s + 4) (h2 : j ≠ 10 + 7 * s + 5) (h3 : j ≠ 172 + 5 * v + 4) (h4 : j ≠ 7) (h5 : ¬ zc6 j) : zE g y s v e j = e j := by
  unfold zE
  rw [if_neg h1, if_neg h2, if_neg h3, if_neg h4]
  exact if_neg h5
theorem zF_o {e0 : Nat → Int32} {j : Nat} (h4 : j ≠ 7) (h5 : ¬ zc6 j) : ∀ (l : List (Nat × Nat)) (e : Nat → Int32), (∀ x ∈ l, j ≠ 10 + 7 * x.1 + 4 ∧ j ≠ 10 + 7 * x.1 + 5 ∧ j ≠ 172 + 5 * x.2 + 4) → l.foldl (zev e0) e j = e j := by
  intro l
  induction l with
  | nil => intro e h; rfl
  | cons x l ih =>
    intro e h
    rw [List.foldl_cons, ih _ (fun y hy => h y (List.mem_cons_of_mem _ hy))]
    have hx := h x (List.mem_cons_self ..)
    exact zE_o hx.1 hx.2.1 hx.2.2 h4 h5
theorem zF_c {e0 : Nat → Int32} {l : List (Nat × Nat)} {j : Nat} (hl : ∀ x ∈ l, x.1 < 6 ∧ x.2 < 8) (h : zcst j) : zF e0 l j = e0 j := by
  unfold zcst at h
  exact zF_o (by omega) (by unfold zc6; omega) l e0 (fun x hx => by have := hl x hx; omega)
theorem zE_W {g : Nat → Int32} {y : Int32} {s v : Nat} {e : Nat → Int32} (hs : s < 6) (hv : v < 8) (h : xr_W e) : xr_W (zE g y s v e) := by
  intro j
  by_cases a1 : j = 10 + 7 * s + 4
  · rw [a1]
    exact xr_any (xr_bs hs (by omega) (by omega))
  · by_cases a2 : j = 10 + 7 * s + 5
    · rw [a2, xr_b5 hs]
      unfold zE
      rw [if_neg (by omega), if_pos rfl]
      decide
    · by_cases a3 : j = 172 + 5 * v + 4
      · rw [a3]
        exact xr_any (xr_bv hv (by omega) (by omega))
      · by_cases a4 : j = 7
        · rw [a4]
          exact xr_any rfl
        · by_cases a5 : zc6 j
          · unfold zc6 at a5
            have ej : j = 10 + 7 * ((j - 10) / 7) + 6 := by omega
            rw [ej]
            exact xr_any (xr_bs (by omega) (by omega) (by omega))
          · rw [zE_o a1 a2 a3 a4 a5]
            exact h j
theorem zF_W {e0 : Nat → Int32} : ∀ (l : List (Nat × Nat)) (e : Nat → Int32), xr_W e → (∀ x ∈ l, x.1 < 6 ∧ x.2 < 8) → xr_W (l.foldl (zev e0) e) := by
  intro l
  induction l with
  | nil => intro e h _; exact h
  | cons x l ih =>
    intro e h hl
    rw [List.foldl_cons]
    have hx := hl x (List.mem_cons_self ..)
    exact ih _ (zE_W hx.1 hx.2 h) (fun y hy => hl y (List.mem_cons_of_mem _ hy))
theorem zF_A {e0 : Nat → Int32} {l : List (Nat × Nat)} (w : xr_W e0) (a : zA e0) (hl : ∀ x ∈ l, x.1 < 6 ∧ x.2 < 8) : zA (zF e0 l) :=
  zA_ag a w (fun i hi h4 => zF_c hl (by unfold zcst; omega)) (fun s hs k hk => zF_c hl (by unfold zcst; omega)) (fun p hp => ⟨zF_c hl (by unfold zcst; omega), zF_c hl (by unfold zcst; omega)⟩) (fun v hv k hk => zF_c hl (by unfold zcst; omega))
theorem zF_p {e0 : Nat → Int32} {l : List (Nat × Nat)} (hl : ∀ x ∈ l, x.1 < 6 ∧ x.2 < 8) : zpl e0 (zF e0 l) := fun n hn => ⟨zF_c hl (by unfold zcst; omega), zF_c hl (by unfold zcst; omega), zF_c hl (by unfold zcst; omega)⟩
/-- the class's loop, the reference's loop -/
def zhc (q : Nat → Nat) : Nat → Int32 → (Nat → Nat → Int32) → (Nat → Nat → Int32)
  | 0, i, J => J
  | c + 1, i, J => if (J (q 1) 1) ≤ i then J
    else if (J (q 10) i.toNatClampNeg) = (Int32.ofInt 1) then if (x2 q i (J (q 0) 2) J) = 0 then zhc q c (i + (Int32.ofInt 1)) J
        else zhc q c (i + (Int32.ofInt 1)) (x3 q i J)
      else zhc q c (i + (Int32.ofInt 1)) J
def zhr (p : Nat → Nat) : Nat → Int32 → (Nat → Nat → Int32) → (Nat → Nat → Int32)
  | 0, i, J => J
  | c + 1, i, J => if (J (p 4) 3) ≤ i then J
    else if (x180 p i (Int32.ofInt 4) J) = (Int32.ofInt 1) then if (x180 p i (Int32.ofInt 2) J) = (J (p 4) 4) then zhr p c (i + (Int32.ofInt 1)) (x191 p i J)
        else zhr p c (i + (Int32.ofInt 1)) J
      else zhr p c (i + (Int32.ofInt 1)) J
theorem zhc_1 {p q : Nat → Nat} {sp ln : Nat} {L : Nat → Nat → Int64} : ∀ (c : Nat) (i : Int32) (J : Nat → Nat → Int32), x1_2 p q sp ln L c i J = x1_48 p q sp ln ((zhc q c i J (q 1) 3).toNatClampNeg) (Int32.ofInt 0) (zhc q c i J) L := by
  intro c
  induction c with
  | zero => intro i J; rfl
  | succ c ih =>
    intro i J
    rw [x1_2, zhc]
    split
    · rfl
    · split
      · split
        · exact ih _ _
        · exact ih _ _
      · exact ih _ _
theorem zhc_N {p q : Nat → Nat} : ∀ (c : Nat) (i : Int32) (J : Nat → Nat → Int32), x1N_2 p q c i J = x1N_48 p q ((zhc q c i J (q 1) 3).toNatClampNeg) (Int32.ofInt 0) (zhc q c i J) := by
  intro c
  induction c with
  | zero => intro i J; rfl
  | succ c ih =>
    intro i J
    rw [x1N_2, zhc]
    split
    · rfl
    · split
      · split
        · exact ih _ _
        · exact ih _ _
      · exact ih _ _
theorem zhr_1 {p : Nat → Nat} {v1 : Int32} {L : Nat → Nat → Int64} : ∀ (c : Nat) (i : Int32) (J : Nat → Nat → Int32), x190_2 p v1 L c i J = x190_50 p v1 ((zhr p c i J (p 4) 3).toNatClampNeg) (Int32.ofInt 0) (zhr p c i J) L := by
  intro c
  induction c with
  | zero => intro i J; rfl
  | succ c ih =>
    intro i J
    rw [x190_2, zhr]
    split
    · rfl
    · split
      · split
        · exact ih _ _
        · exact ih _ _
      · exact ih _ _
theorem zfil {f : Nat → Bool} {n : Nat} : List.filter f [n] = if f n = true then [n] else [] := by
  by_cases h : f n = true
  · rw [if_pos h, List.filter_cons_of_pos h]
    rfl
  · rw [if_neg h, List.filter_cons_of_neg h]
    rfl
def zlc (e : Nat → Int32) (n : Nat) : List (Nat × Nat) := ((List.range n).filter (fun s => decide (e (10 + 7 * s + 4) = 1 ∧ e (172 + 5 * (e (10 + 7 * s + 5)).toNatClampNeg + 2) = e 4))).map (fun s => (s, (e (10 + 7 * s + 5)).toNatClampNeg))
def zlr (e : Nat → Int32) (n : Nat) : List (Nat × Nat) := ((List.range n).filter (fun v => decide (e (172 + 5 * v + 4) = 1 ∧ e (172 + 5 * v + 2) = e 4))).map (fun v => ((e (172 + 5 * v + 0)).toNatClampNeg, v))
theorem zlc_m {e : Nat → Int32} {n : Nat} {x : Nat × Nat} : x ∈ zlc e n ↔ x.1 < n ∧ (e (10 + 7 * x.1 + 4) = 1 ∧ e (172 + 5 * (e (10 + 7 * x.1 + 5)).toNatClampNeg + 2) = e 4) ∧ x.2 = (e (10 + 7 * x.1 + 5)).toNatClampNeg := by
  unfold zlc
  rw [List.mem_map]
  constructor
  · rintro ⟨s, hs, rfl⟩
    rw [List.mem_filter, List.mem_range, decide_eq_true_eq] at hs
    exact ⟨hs.1, hs.2, rfl⟩
  · rintro ⟨h1, h2, h3⟩
    refine ⟨x.1, ?_, by rw [← h3]⟩
    rw [List.mem_filter, List.mem_range, decide_eq_true_eq]
    exact ⟨h1, h2⟩
theorem zlr_m {e : Nat → Int32} {n : Nat} {x : Nat × Nat} : x ∈ zlr e n ↔ x.2 < n ∧ (e (172 + 5 * x.2 + 4) = 1 ∧ e (172 + 5 * x.2 + 2) = e 4) ∧ x.1 = (e (172 + 5 * x.2 + 0)).toNatClampNeg := by
  unfold zlr
  rw [List.mem_map]
  constructor
  · rintro ⟨s, hs, rfl⟩
    rw [List.mem_filter, List.mem_range, decide_eq_true_eq] at hs
    exact ⟨hs.1, hs.2, rfl⟩
  · rintro ⟨h1, h2, h3⟩
    refine ⟨x.2, ?_, by rw [← h3]⟩
    rw [List.mem_filter, List.mem_range, decide_eq_true_eq]
    exact ⟨h1, h2⟩
theorem zlc_s {e : Nat → Int32} {n : Nat} : zlc e (n + 1) = zlc e n ++ (if e (10 + 7 * n + 4) = 1 ∧ e (172 + 5 * (e (10 + 7 * n + 5)).toNatClampNeg + 2) = e 4 then [(n, (e (10 + 7 * n + 5)).toNatClampNeg)] else []) := by
  unfold zlc
  rw [List.range_succ, List.filter_append, List.map_append]
  congr 1
  by_cases h : e (10 + 7 * n + 4) = 1 ∧ e (172 + 5 * (e (10 + 7 * n + 5)).toNatClampNeg + 2) = e 4
  · rw [if_pos h, zfil, if_pos (decide_eq_true h)]
    rfl
  · rw [if_neg h, zfil, if_neg (fun c => h (of_decide_eq_true c))]
    rfl
theorem zlr_s {e : Nat → Int32} {n : Nat} : zlr e (n + 1) = zlr e n ++ (if e (172 + 5 * n + 4) = 1 ∧ e (172 + 5 * n + 2) = e 4 then [((e (172 + 5 * n + 0)).toNatClampNeg, n)] else []) := by
  unfold zlr
  rw [List.range_succ, List.filter_append, List.map_append]
  congr 1
  by_cases h : e (172 + 5 * n + 4) = 1 ∧ e (172 + 5 * n + 2) = e 4
  · rw [if_pos h, zfil, if_pos (decide_eq_true h)]
    rfl
  · rw [if_neg h, zfil, if_neg (fun c => h (of_decide_eq_true c))]
    rfl
theorem zl_nd1 {e : Nat → Int32} {n : Nat} : (zlc e n).Nodup := by
  unfold zlc
  refine List.Pairwise.map _ ?_ (List.Pairwise.filter _ (List.nodup_range (n := n)))
  intro a b hab c
  exact hab (congrArg Prod.fst c)
theorem zl_nd2 {e : Nat → Int32} {n : Nat} : (zlr e n).Nodup := by
  unfold zlr
  refine List.Pairwise.map _ ?_ (List.Pairwise.filter _ (List.nodup_range (n := n)))
  intro a b hab c
  exact hab (congrArg Prod.snd c)
theorem zlc_b {e : Nat → Int32} {b : Int} (hW : zW e b) {n : Nat} (hn : n ≤ zn e 1) : ∀ x ∈ zlc e n, x.1 < 6 ∧ x.2 < 8 := by
  have bb := zn_b hW.w
  intro x hx
  obtain ⟨h1, h2, h3⟩ := zlc_m.mp hx
  obtain ⟨v, hv, ev, _⟩ := hW.c.on x.1 (by omega) h2.1
  rw [z_i3 ev] at h3
  omega
theorem zlr_b {e : Nat → Int32} {b : Int} (hW : zW e b) {n : Nat} (hn : n ≤ zn e 3) : ∀ x ∈ zlr e n, x.1 < 6 ∧ x.2 < 8 := by
  have bb := zn_b hW.w
  intro x hx
  obtain ⟨h1, h2, h3⟩ := zlr_m.mp hx
  have hv := hW.a.vo x.2 (by omega)
  have := z_tn hv.1
  omega
theorem zl_perm {e : Nat → Int32} {b : Int} (hW : zW e b) : (zlc e (zn e 1)).Perm (zlr e (zn e 3)) := by
  rw [List.perm_ext_iff_of_nodup zl_nd1 zl_nd2]
  intro x
  rw [zlc_m, zlr_m]
  constructor
  · rintro ⟨h1, ⟨h2, h3⟩, h4⟩
    obtain ⟨v, hv, ev, es, ec, eb⟩ := hW.c.on x.1 h1 h2
    rw [z_i3 ev] at h3 h4
    rw [h4]
    exact ⟨hv, ⟨ec, h3⟩, (z_i3 es).symm⟩
  · rintro ⟨h1, ⟨h2, h3⟩, h4⟩
    obtain ⟨s, hs, es, e1, eo⟩ := hW.c.vc x.2 h1 h2
    rw [z_i3 es] at h4
    rw [h4]
    exact ⟨hs, ⟨e1, by rw [z_i3 eo]; exact h3⟩, (z_i3 eo).symm⟩
theorem zF_perm {e : Nat → Int32} {b : Int} (hW : zW e b) : zF e (zlc e (zn e 1)) = zF e (zlr e (zn e 3)) := by
  refine List.Perm.foldl_eq' (zl_perm hW) ?_ e
  intro x hx y hy z
  have b1 := zlc_b hW (Nat.le_refl _) x hx
  have b2 := zlc_b hW (Nat.le_refl _) y hy
  exact zE_comm b2.1 b1.1 b2.2 b1.2
end
section
/-! homecoming: the whole -/
theorem zW_home {e f : Nat → Int32} {b : Int} {n v : Nat} (hW : zW e b) (hn : n < zn e 1) (h1 : e (10 + 7 * n + 4) = 1) (hv : v < zn e 3) (ho : (e (10 + 7 * n + 5)).toInt = v) (w : xr_W f) (f4 : f (10 + 7 * n + 4) = 0) (f5 : f (10 + 7 * n + 5) = Int32.ofInt (-1)) (fv : f (172 + 5 * v + 4) = 2) (fo : ∀ j, j ≠ 10 + 7 * n + 4 → j ≠ 10 + 7 * n + 5 → j ≠ 172 + 5 * v + 4 → j ≠ 7 → ¬ zc6 j → f j = e j) : zW f b := by
  have bb := zn_b hW.w
  have fo : ∀ j, j ≠ 10 + 7 * n + 4 → j ≠ 10 + 7 * n + 5 → j ≠ 172 + 5 * v + 4 → j ≠ 7 → ¬ (10 ≤ j ∧ j < 52 ∧ (j - 10) % 7 = 6) → f j = e j := fo
  have g : ∀ i, i < 7 → f i = e i := fun i hi => fo i (by omega) (by omega) (by omega) (by omega) (by omega)
  have n1 := zn_ag (g 1 (by omega))
  have n2 := zn_ag (g 2 (by omega))
  have n3 := zn_ag (g 3 (by omega))
  refine ⟨w, ?_, ⟨?_, ?_⟩, ⟨?_, ?_, ?_, ?_⟩, ?_⟩
  · exact zA_ag hW.a hW.w (fun i hi _ => g i (by omega)) (fun s hs k hk => fo _ (by omega) (by omega) (by omega) (by omega) (by omega)) (fun p hp => ⟨fo _ (by omega) (by omega) (by omega) (by omega) (by omega), fo _ (by omega) (by omega) (by omega) (by omega) (by omega)⟩) (fun u hu k hk => fo _ (by omega) (by omega) (by omega) (by omega) (by omega))
  · intro p hp
    rw [n2] at hp
    rw [fo _ (by omega) (by omega) (by omega) (by omega) (by omega), g 1 (by omega)]
    exact hW.b.inn p hp
  · intro p hp
    rw [n2] at hp
    have i := hW.b.inn p hp
    have y : (e (52 + 5 * p + 3)).toNatClampNeg = (e (52 + 5 * p + 3)).toInt.toNat := rfl
    rw [fo (52 + 5 * p + 4) (by omega) (by omega) (by omega) (by omega) (by omega), fo (52 + 5 * p + 3) (by omega) (by omega) (by omega) (by omega) (by omega), hW.b.lo p hp]
    by_cases d : 0 ≤ (e (52 + 5 * p + 3)).toInt
    · by_cases c : (e (52 + 5 * p + 3)).toNatClampNeg = n
      · rw [c, f4, h1, if_neg (fun z => absurd z.2 (by decide)), if_neg (fun z => absurd z.2 (by decide))]
      · rw [fo (10 + 7 * (e (52 + 5 * p + 3)).toNatClampNeg + 4) (by omega) (by omega) (by omega) (by omega) (by omega)]
    · rw [if_neg (fun z => d z.1), if_neg (fun z => d z.1)]
  · intro s hs
    rw [n1] at hs
    by_cases c : s = n
    · rw [c, f4]
      exact Or.inl rfl
    · rw [fo _ (by omega) (by omega) (by omega) (by omega) (by omega)]
      exact hW.c.st s hs
  · intro s hs e1
    rw [n1] at hs
    by_cases c : s = n
    · rw [c, f4] at e1
      exact absurd e1 (by decide)
    · rw [fo _ (by omega) (by omega) (by omega) (by omega) (by omega)] at e1
      obtain ⟨u, a, b, cc, d, g'⟩ := hW.c.on s hs e1
      have nu : u ≠ v := by
        intro z
        obtain ⟨u2, a2, b2, c2, d2, g2⟩ := hW.c.on n hn h1
        have : u2 = v := by omega
        rw [z] at cc
        rw [this] at c2
        omega
      exact ⟨u, by rw [n3]; exact a, by rw [fo _ (by omega) (by omega) (by omega) (by omega) (by omega)]; exact b, by rw [fo _ (by omega) (by omega) (by omega) (by omega) (by omega)]; exact cc, by rw [fo _ (by omega) (by omega) (by omega) (by omega) (by omega)]; exact d, by rw [fo _ (by omega) (by omega) (by omega) (by omega) (by omega)]; exact g'⟩
  · intro s hs e1
    rw [n1] at hs
    by_cases c : s = n
    · rw [c, f5]
    · rw [fo _ (by omega) (by omega) (by omega) (by omega) (by omega)] at e1
      rw [fo _ (by omega) (by omega) (by omega) (by omega) (by omega)]
      exact hW.c.no s hs e1
  · intro u hu e1
    rw [n3] at hu
    by_cases c : u = v
    · rw [c, fv] at e1
      exact absurd e1 (by decide)
    · rw [fo _ (by omega) (by omega) (by omega) (by omega) (by omega)] at e1
      obtain ⟨s, a, b, cc, d⟩ := hW.c.vc u hu e1
      have ns : s ≠ n := by
        intro z
        rw [z] at d
        omega
      exact ⟨s, by rw [n1]; exact a, by rw [fo _ (by omega) (by omega) (by omega) (by omega) (by omega)]; exact b, by rw [fo _ (by omega) (by omega) (by omega) (by omega) (by omega)]; exact cc, by rw [fo _ (by omega) (by omega) (by omega) (by omega) (by omega)]; exact d⟩
  · exact zD_ag hW.d hW.w (g 2 (by omega)) (g 4 (by omega)) (g 5 (by omega)) (g 6 (by omega)) (fun p hp => fo _ (by omega) (by omega) (by omega) (by omega) (by omega))
theorem z_oi {x : Int32} (h0 : 0 ≤ x.toInt) (h1 : x.toInt < 1000) : Int32.ofInt ((x.toNatClampNeg : Nat) : Int) = x := by
  have t := z_tn h0
  exact Int32.toInt_inj.mp (by rw [xi_k (by omega)]; omega)
/-- the class's loop does the events of her ships -/
theorem zhc_f {q : Nat → Nat} {e : Nat → Int32} {b : Int} (hq : zq q) (hW : zW e b) : ∀ (c : Nat) (i : Int32) (J : Nat → Nat → Int32), 0 ≤ i.toInt → i.toInt ≤ (e 1).toInt → (e 1).toInt - i.toInt ≤ c → zR q J (zF e (zlc e i.toNatClampNeg)) → zR q (zhc q c i J) (zF e (zlc e (zn e 1))) := by
  have bb := zn_b hW.w
  intro c
  induction c with
  | zero =>
    intro i J h0 h1 hc hR
    rw [show i.toNatClampNeg = zn e 1 from by rw [zn_t]; omega] at hR
    exact hR
  | succ c ih =>
    intro i J h0 h1 hc hR
    have hl := zlc_b hW (n := i.toNatClampNeg) (by have := z_tn h0; omega)
    have c1 : ∀ {j}, zcst j → zF e (zlc e i.toNatClampNeg) j = e j := fun h => zF_c hl h
    rw [zhc, zR_n hR (by omega), c1 (j := 1) (by unfold zcst; omega)]
    by_cases h2 : e 1 ≤ i
    · rw [if_pos h2]
      rw [show i.toNatClampNeg = zn e 1 from by rw [zn_t]; have := z_ge.mp h2; omega] at hR
      exact hR
    · rw [if_neg h2]
      have x := zx bb.2.2.2.2.2.1 h0 h2
      have lt := z_lt h2
      have i1 := zx_i h2 h0
      have n1 : zn (zF e (zlc e i.toNatClampNeg)) 1 = zn e 1 := zn_ag (c1 (by unfold zcst; omega))
      have n3 : zn (zF e (zlc e i.toNatClampNeg)) 3 = zn e 3 := zn_ag (c1 (by unfold zcst; omega))
      have un : ∀ k, k < 2 → zF e (zlc e i.toNatClampNeg) (10 + 7 * i.toNatClampNeg + 4 + k) = e (10 + 7 * i.toNatClampNeg + 4 + k) := by
        intro k hk
        refine zF_o (by omega) (by unfold zc6; omega) _ _ (fun y hy => ?_)
        have hm := (zlc_m.mp hy).1
        have hb := hl y hy
        omega
      have u4 := un 0 (by omega)
      have u5 : zF e (zlc e i.toNatClampNeg) (10 + 7 * i.toNatClampNeg + 5) = e (10 + 7 * i.toNatClampNeg + 5) := un 1 (by omega)
      rw [zR_s hR (by rw [n1]; exact x.1) (by omega) (by omega) (by omega) (zc_s4 _ (by omega)), u4]
      have ih' := ih (i + Int32.ofInt 1)
      have g0 := zi_i h2 h0
      have g1 : (i + Int32.ofInt 1).toInt ≤ (e 1).toInt := by rw [lx_inc h2]; omega
      have g2 := lx_dec h2 hc
      rw [i1, zlc_s] at ih'
      by_cases h3 : e (10 + 7 * i.toNatClampNeg + 4) = Int32.ofInt 1
      · rw [if_pos h3]
        obtain ⟨v, hv, ev, es, ec, eb⟩ := hW.c.on _ x.1 h3
        have nv := z_i3 ev
        have e12 : J (q 12) i.toNatClampNeg = e (10 + 7 * i.toNatClampNeg + 5) := (zR_s hR (by rw [n1]; exact x.1) (by omega) (by omega) (by omega) (zc_s5 _ (by omega))).trans u5
        have e8 : J (q 8) v = e (172 + 5 * v + 2) := (zR_v hR (by rw [n3]; exact hv) (by omega) (by omega) (zc_v2 _ (by omega))).trans (c1 (by unfold zcst; omega))
        have e4 : J (q 0) 2 = e 4 := (zR_4 hR).trans (c1 (by unfold zcst; omega))
        have e71 : ¬ x71 q (e (10 + 7 * i.toNatClampNeg + 5)) J = 0 := by
          unfold x71
          rw [if_neg (fun c => by have := z_le0.mp c; omega), zR_n hR (by omega), c1 (j := 3) (by unfold zcst; omega), if_neg (fun c => by have := z_ge.mp c; omega)]
          decide
        have e2 : x2 q i (J (q 0) 2) J = if e (172 + 5 * v + 2) = e 4 then Int32.ofInt 1 else Int32.ofInt 0 := by
          unfold x2
          rw [e12, if_neg e71, nv, e8, e4]
        rw [e2]
        rw [nv] at ih'
        by_cases h4 : e (172 + 5 * v + 2) = e 4
        · rw [if_pos h4, if_neg (show ¬ Int32.ofInt 1 = 0 from by decide)]
          rw [if_pos ⟨h3, h4⟩] at ih'
          refine ih' _ g0 g1 g2 ?_
          have zz := zh_c (part := zpart e (i.toNatClampNeg, v)) hq hR (zF_W _ _ hW.w hl) (zF_A hW.w hW.a hl) (s := i) (v := v) ⟨h0, by rw [c1 (j := 1) (by unfold zcst; omega)]; omega⟩ (by rw [n3]; exact hv) (by rw [u5]; exact ev) (c1 (by unfold zcst; omega)) (by
            unfold zpart
            rw [zk_66 hR (zF_W _ _ hW.w hl), zn_ag (c1 (by unfold zcst; omega)), zk_ag (zF_p hl) _ (by omega), z_oi h0 (by omega)])
          rw [zgn_ag hW.w (c1 (by unfold zcst; omega)) (zF_p hl)] at zz
          unfold zF
          rw [List.foldl_append]
          show zR q _ (zev e (zF e (zlc e i.toNatClampNeg)) (i.toNatClampNeg, v))
          unfold zev
          rw [show Int32.ofInt (((i.toNatClampNeg, v) : Nat × Nat).1 : Int) = i from z_oi h0 (by omega)]
          exact zz
        · rw [if_neg h4, if_pos (show Int32.ofInt 0 = 0 from rfl)]
          rw [if_neg (fun c => h4 c.2), List.append_nil] at ih'
          exact ih' _ g0 g1 g2 hR
      · rw [if_neg h3]
        rw [if_neg (fun c => h3 c.1), List.append_nil] at ih'
        exact ih' _ g0 g1 g2 hR
/-- a ship that is not lost has no lost planks -/
theorem zl_of {e : Nat → Int32} {b : Int} {s : Int32} (hW : zW e b) (h0 : 0 ≤ s.toInt → e (10 + 7 * s.toNatClampNeg + 4) ≠ 2) : zl e s := by
  intro n hn es
  rw [hW.b.lo n hn, es, if_neg (fun c => h0 c.1 c.2)]
/-- the reference's loop does the events of its voyages -/
theorem zhr_f {p : Nat → Nat} {e : Nat → Int32} {b : Int} (hW0 : zW e b) : ∀ (c : Nat) (i : Int32) (J : Nat → Nat → Int32), 0 ≤ i.toInt → i.toInt ≤ (e 3).toInt → (e 3).toInt - i.toInt ≤ c → J (p 4) = zF e (zlr e i.toNatClampNeg) → zW (J (p 4)) b → (∀ v, v < i.toNatClampNeg → J (p 4) (172 + 5 * v + 4) = 1 → e (172 + 5 * v + 2) ≠ e 4) → zhr p c i J (p 4) = zF e (zlr e (zn e 3)) ∧ zW (zhr p c i J (p 4)) b ∧ (∀ v, v < zn e 3 → zhr p c i J (p 4) (172 + 5 * v + 4) = 1 → e (172 + 5 * v + 2) ≠ e 4) := by
  have bb := zn_b hW0.w
  intro c
  induction c with
  | zero =>
    intro i J h0 h1 hc hJ hW hb
    rw [show i.toNatClampNeg = zn e 3 from by rw [zn_t]; omega] at hJ hb
    exact ⟨hJ, hW, hb⟩
  | succ c ih =>
    intro i J h0 h1 hc hJ hW hb
    have hl := zlr_b hW0 (n := i.toNatClampNeg) (by have := z_tn h0; omega)
    have c1 : ∀ {j}, zcst j → J (p 4) j = e j := fun h => by rw [hJ]; exact zF_c hl h
    rw [zhr, c1 (j := 3) (by unfold zcst; omega)]
    by_cases h2 : e 3 ≤ i
    · rw [if_pos h2]
      rw [show i.toNatClampNeg = zn e 3 from by rw [zn_t]; have := z_ge.mp h2; omega] at hJ hb
      exact ⟨hJ, hW, hb⟩
    · rw [if_neg h2]
      have x := zx bb.2.2.2.2.2.2.2 h0 h2
      have lt := z_lt h2
      have i1 := zx_i h2 h0
      have n3 : zn (J (p 4)) 3 = zn e 3 := zn_ag (c1 (by unfold zcst; omega))
      have u4 : J (p 4) (172 + 5 * i.toNatClampNeg + 4) = e (172 + 5 * i.toNatClampNeg + 4) := by
        rw [hJ]
        refine zF_o (by omega) (by unfold zc6; omega) _ _ (fun y hy => ?_)
        have hm := (zlr_m.mp hy).1
        have hb := hl y hy
        omega
      have r0 : x180 p i (Int32.ofInt 0) J = _ := zx_v (k := 0) h0 (by omega) (by omega)
      have r2 : x180 p i (Int32.ofInt 2) J = _ := zx_v (k := 2) h0 (by omega) (by omega)
      have r3 : x180 p i (Int32.ofInt 3) J = _ := zx_v (k := 3) h0 (by omega) (by omega)
      have r4 : x180 p i (Int32.ofInt 4) J = _ := zx_v (k := 4) h0 (by omega) (by omega)
      rw [c1 (by unfold zcst; omega)] at r0 r2 r3
      rw [r2, r4, u4, c1 (j := 4) (by unfold zcst; omega)]
      have ih' := ih (i + Int32.ofInt 1)
      have g0 := zi_i h2 h0
      have g1 : (i + Int32.ofInt 1).toInt ≤ (e 3).toInt := by rw [lx_inc h2]; omega
      have g2 := lx_dec h2 hc
      rw [i1, zlr_s] at ih'
      by_cases h3 : e (172 + 5 * i.toNatClampNeg + 4) = Int32.ofInt 1
      · rw [if_pos h3]
        by_cases h4 : e (172 + 5 * i.toNatClampNeg + 2) = e 4
        · rw [if_pos h4]
          rw [if_pos ⟨h3, h4⟩] at ih'
          obtain ⟨s, hs, es, e1, eo⟩ := hW.c.vc i.toNatClampNeg (by rw [n3]; exact x.1) (by rw [u4]; exact h3)
          have s0 : J (p 4) (172 + 5 * i.toNatClampNeg + 0) = e (172 + 5 * i.toNatClampNeg + 0) := c1 (by unfold zcst; omega)
          rw [s0] at es
          have ns := z_i3 es
          have n1 : zn (J (p 4)) 1 = zn e 1 := zn_ag (c1 (by unfold zcst; omega))
          have zl1 : zl (J (p 4)) (e (172 + 5 * i.toNatClampNeg + 0)) := zl_of hW (fun _ c => by rw [ns, e1] at c; exact absurd c (by decide))
          have eE := zh_r (p := p) (J := J) (v := i) (s := e (172 + 5 * i.toNatClampNeg + 0)) (pay := e (172 + 5 * i.toNatClampNeg + 3)) (part := zpart e (s, i.toNatClampNeg)) hW.w hW.a ⟨h0, by rw [c1 (j := 3) (by unfold zcst; omega)]; exact h2⟩ r0 r3 (by
            unfold zpart
            rw [zk_170 hW.w zl1, zn_ag (c1 (by unfold zcst; omega)), zk_ag (fun n hn => ⟨c1 (by unfold zcst; omega), c1 (by unfold zcst; omega), c1 (by unfold zcst; omega)⟩) _ (by omega), ← ns, z_oi (by omega) (by omega)]) zl1
          rw [zgn_ag hW0.w (c1 (by unfold zcst; omega)) (fun n hn => ⟨c1 (by unfold zcst; omega), c1 (by unfold zcst; omega), c1 (by unfold zcst; omega)⟩), ns] at eE
          have eF : x191 p i J (p 4) = zev e (J (p 4)) (s, i.toNatClampNeg) := by
            rw [eE]
            unfold zev
            rw [show Int32.ofInt (((s, i.toNatClampNeg) : Nat × Nat).1 : Int) = e (172 + 5 * i.toNatClampNeg + 0) from (zi_n (by omega)).mpr es |>.symm]
          have hW1 : zW (x191 p i J (p 4)) b := by
            refine zW_home hW hs e1 (by rw [n3]; exact x.1) eo ?_ ?_ ?_ ?_ ?_
            · rw [eE]
              exact zE_W (by omega) (by omega) hW.w
            · rw [eE]
              exact if_pos rfl
            · rw [eE]
              unfold zE
              rw [if_neg (by omega), if_pos rfl]
            · rw [eE]
              unfold zE
              rw [if_neg (by omega), if_neg (by omega), if_pos rfl]
            · intro j a b c d g
              rw [eE]
              exact zE_o a b c d g
          refine ih' _ g0 g1 g2 ?_ hW1 ?_
          · unfold zF
            rw [List.foldl_append, eF, hJ, ns]
            rfl
          · intro v hv
            rw [eE]
            by_cases c : v = i.toNatClampNeg
            · rw [c]
              unfold zE
              rw [if_neg (by omega), if_neg (by omega), if_pos rfl]
              intro d
              exact absurd d (by decide)
            · rw [zE_o (by omega) (by omega) (by omega) (by omega) (by unfold zc6; omega)]
              exact hb v (by omega)
        · rw [if_neg h4]
          rw [if_neg (fun c => h4 c.2), List.append_nil] at ih'
          refine ih' _ g0 g1 g2 hJ hW ?_
          intro v hv hc1
          by_cases c : v = i.toNatClampNeg
          · rw [c]
            exact h4
          · exact hb v (by omega) hc1
      · rw [if_neg h3]
        rw [if_neg (fun c => h3 c.1), List.append_nil] at ih'
        refine ih' _ g0 g1 g2 hJ hW ?_
        intro v hv hc1
        by_cases c : v = i.toNatClampNeg
        · rw [c, u4] at hc1
          exact absurd hc1 h3
        · exact hb v (by omega) hc1
theorem zhome {q p : Nat → Nat} {Jc Jr : Nat → Nat → Int32} (hq : zq q) (hR : zR q Jc (Jr (p 4))) (hW : zW (Jr (p 4)) (Jr (p 4) 4).toInt) : zR q (zhc q ((Jc (q 1) 1).toNatClampNeg) (Int32.ofInt 0) Jc) (zhr p ((Jr (p 4) 3).toNatClampNeg) (Int32.ofInt 0) Jr (p 4)) ∧ zW (zhr p ((Jr (p 4) 3).toNatClampNeg) (Int32.ofInt 0) Jr (p 4)) ((Jr (p 4) 4).toInt + 1) ∧ zhr p ((Jr (p 4) 3).toNatClampNeg) (Int32.ofInt 0) Jr (p 4) 4 = Jr (p 4) 4 := by
  have bb := zn_b hW.w
  have a := zhc_f hq hW ((Jc (q 1) 1).toNatClampNeg) (Int32.ofInt 0) Jc (by decide) (by rw [show (Int32.ofInt 0).toInt = 0 from by decide]; omega) (by rw [zR_n hR (by omega)]; exact lx_beg (by decide)) hR
  have b := zhr_f (p := p) hW ((Jr (p 4) 3).toNatClampNeg) (Int32.ofInt 0) Jr (by decide) (by rw [show (Int32.ofInt 0).toInt = 0 from by decide]; omega) (lx_beg (by decide)) rfl hW (fun v hv => by rw [show (Int32.ofInt 0).toNatClampNeg = 0 from rfl] at hv; omega)
  have hl := zlr_b hW (Nat.le_refl (zn (Jr (p 4)) 3))
  have c1 : ∀ {j}, zcst j → zhr p ((Jr (p 4) 3).toNatClampNeg) (Int32.ofInt 0) Jr (p 4) j = Jr (p 4) j := fun h => by rw [b.1]; exact zF_c hl h
  refine ⟨?_, ?_, c1 (by unfold zcst; omega)⟩
  · rw [b.1, ← zF_perm hW]
    exact a
  · have w := b.2.1
    refine ⟨w.w, w.a, w.b, ⟨w.c.st, ?_, w.c.no, w.c.vc⟩, w.d⟩
    intro s hs e1
    obtain ⟨v, hv, ev, es, ec, eb⟩ := w.c.on s hs e1
    refine ⟨v, hv, ev, es, ec, ?_⟩
    have n := b.2.2 v (by rw [← zn_ag (c1 (j := 3) (by unfold zcst; omega))]; exact hv) ec
    rw [c1 (by unfold zcst; omega)] at eb ⊢
    have : (Jr (p 4) (172 + 5 * v + 2)).toInt ≠ (Jr (p 4) 4).toInt := fun c => n (Int32.toInt_inj.mp c)
    omega
end
section
/-! rules: steps on a stack, told by lists -/
def zap (x : Int32) (st : List Int64) : Option (List Int64) := if x = Int32.ofInt 21 then (match st with | a :: r => some ((Int64.ofNat 1 - a) :: r) | [] => none) else (match st with | b :: a :: r => some (x44 x a b :: r) | _ => none)
abbrev zpu (x : Int32) : Prop := ¬ x < Int32.ofInt 100 ∨ (¬ x < 0 ∧ ¬ Int32.ofInt 10 ≤ x)
def zcs (w : Nat → Int64) (x : Int32) (st : List Int64) : Option (List Int64) := if x < Int32.ofInt 100 then (if x < 0 then zap x st else if Int32.ofInt 10 ≤ x then zap x st else some (w x.toNatClampNeg :: st)) else some ((x - Int32.ofInt 100).toInt64 :: st)
def zcr (w : Nat → Int64) (g : Nat → Int32) : Nat → Nat → List Int64 → Option (List Int64)
  | 0, _, st => some st
  | n + 1, a, st => (zcs w (g a) st).bind (zcr w g n (a + 1))
def zpc (g : Nat → Int32) : Nat → Nat → Nat
  | 0, _ => 0
  | n + 1, a => (if zpu (g a) then 1 else 0) + zpc g n (a + 1)
theorem zcr_add {w : Nat → Int64} {g : Nat → Int32} {m : Nat} : ∀ (n a : Nat) (st : List Int64), zcr w g (n + m) a st = (zcr w g n a st).bind (zcr w g m (a + n)) := by
  intro n
  induction n with
  | zero => intro a st; rw [Nat.zero_add]; rfl
  | succ n ih =>
    intro a st
    rw [show n + 1 + m = (n + m) + 1 from by omega, zcr, zcr]
    cases zcs w (g a) st with
    | none => rfl
    | some s =>
      show zcr w g (n + m) (a + 1) s = (zcr w g n (a + 1) s).bind _
      rw [ih, show a + 1 + n = a + (n + 1) from by omega]
theorem zcr_ag {w : Nat → Int64} {g h : Nat → Int32} : ∀ (n a : Nat) (st : List Int64), (∀ j, a ≤ j → j < a + n → h j = g j) → zcr w h n a st = zcr w g n a st := by
  intro n
  induction n with
  | zero => intro a st _; rfl
  | succ n ih =>
    intro a st hg
    rw [zcr, zcr, hg a (by omega) (by omega)]
    congr 1
    funext s
    exact ih _ _ (fun j h1 h2 => hg j (by omega) (by omega))
theorem zpc_add {g : Nat → Int32} {m : Nat} : ∀ (n a : Nat), zpc g (n + m) a = zpc g n a + zpc g m (a + n) := by
  intro n
  induction n with
  | zero => intro a; rw [Nat.zero_add]; show _ = 0 + zpc g m (a + 0); rw [Nat.zero_add]; rfl
  | succ n ih =>
    intro a
    rw [show n + 1 + m = (n + m) + 1 from by omega, zpc, zpc, ih, show a + 1 + n = a + (n + 1) from by omega]
    omega
theorem zpc_ag {g h : Nat → Int32} : ∀ (n a : Nat), (∀ j, a ≤ j → j < a + n → h j = g j) → zpc h n a = zpc g n a := by
  intro n
  induction n with
  | zero => intro a _; rfl
  | succ n ih =>
    intro a hg
    rw [zpc, zpc, hg a (by omega) (by omega), ih _ (fun j h1 h2 => hg j (by omega) (by omega))]
/-- a row holds a stack -/
def zst (F : Nat → Int64) : List Int64 → Prop
  | [] => True
  | v :: r => F r.length = v ∧ zst F r
theorem zst_ag {F G : Nat → Int64} : ∀ st, (∀ i, i < st.length → G i = F i) → zst F st → zst G st := by
  intro st
  induction st with
  | nil => intro _ _; trivial
  | cons v r ih =>
    intro h hs
    exact ⟨(h _ (by simp)).trans hs.1, ih (fun i hi => h i (by simp; omega)) hs.2⟩
theorem zcs_len {w : Nat → Int64} {x : Int32} {st s : List Int64} (h : zcs w x st = some s) : s.length ≤ st.length + (if zpu x then 1 else 0) := by
  have ap : zap x st = some s → s.length ≤ st.length := by
    intro h
    unfold zap at h
    split at h
    · split at h
      · cases h; simp
      · cases h
    · split at h
      · cases h; simp
      · cases h
  unfold zcs at h
  by_cases c1 : x < Int32.ofInt 100
  · rw [if_pos c1] at h
    by_cases c2 : x < 0
    · rw [if_pos c2] at h
      have := ap h
      omega
    · rw [if_neg c2] at h
      by_cases c3 : Int32.ofInt 10 ≤ x
      · rw [if_pos c3] at h
        have := ap h
        omega
      · rw [if_neg c3] at h
        cases h
        rw [if_pos (show zpu x from Or.inr ⟨c2, c3⟩)]
        simp
  · rw [if_neg c1] at h
    cases h
    rw [if_pos (show zpu x from Or.inl c1)]
    simp
theorem zi_o {n : Nat} (h : n < 1000) : (Int32.ofInt (n : Int)).toNatClampNeg = n := by
  show Int.toNat _ = n
  rw [xi_k h]
  omega
theorem z_eqn {x : Int32} {n : Nat} (h : x.toInt = n) (hn : n < 1000) : x = Int32.ofInt (n : Int) := (zi_n hn).mpr h
theorem z_sub {x : Int32} {n k : Nat} (h : x.toInt = n) (hk : k ≤ n) (hn : n < 1000) : (x - Int32.ofInt (k : Int)).toInt = (n - k : Nat) := by
  rw [Int32.toInt_sub, xi_k (by omega), h, Int.bmod_eq_of_le (by omega) (by omega)]
  omega
/-- the class: one step, told by lists -/
def zCS (p : Nat → Nat) (w : Nat → Int64) (J : Nat → Nat → Int32) (L : Nat → Nat → Int64) (J0 : Nat → Nat → Int32) (L0 : Nat → Nat → Int64) (st : List Int64) : Prop := ((J (p 25) 2).toInt = (st.length : Nat)) ∧ (st.length ≤ 60) ∧ (zst (L (p 27)) st) ∧ (∀ k, k < 10 → L (p 26) k = w k) ∧ (∀ a, a ≠ p 25 → J a = J0 a) ∧ (∀ j, j ≠ 2 → J (p 25) j = J0 (p 25) j) ∧ (∀ a, a ≠ p 25 → a ≠ p 27 → L a = L0 a)
theorem zCS.top {p : Nat → Nat} {w : Nat → Int64} {J : Nat → Nat → Int32} {L : Nat → Nat → Int64} {J0 : Nat → Nat → Int32} {L0 : Nat → Nat → Int64} {st : List Int64} (h_ : zCS p w J L J0 L0 st) : (J (p 25) 2).toInt = (st.length : Nat) := h_.1
theorem zCS.le {p : Nat → Nat} {w : Nat → Int64} {J : Nat → Nat → Int32} {L : Nat → Nat → Int64} {J0 : Nat → Nat → Int32} {L0 : Nat → Nat → Int64} {st : List Int64} (h_ : zCS p w J L J0 L0 st) : st.length ≤ 60 := h_.2.1
theorem zCS.row {p : Nat → Nat} {w : Nat → Int64} {J : Nat → Nat → Int32} {L : Nat → Nat → Int64} {J0 : Nat → Nat → Int32} {L0 : Nat → Nat → Int64} {st : List Int64} (h_ : zCS p w J L J0 L0 st) : zst (L (p 27)) st := h_.2.2.1
theorem zCS.wd {p : Nat → Nat} {w : Nat → Int64} {J : Nat → Nat → Int32} {L : Nat → Nat → Int64} {J0 : Nat → Nat → Int32} {L0 : Nat → Nat → Int64} {st : List Int64} (h_ : zCS p w J L J0 L0 st) : ∀ k, k < 10 → L (p 26) k = w k := h_.2.2.2.1
theorem zCS.oj {p : Nat → Nat} {w : Nat → Int64} {J : Nat → Nat → Int32} {L : Nat → Nat → Int64} {J0 : Nat → Nat → Int32} {L0 : Nat → Nat → Int64} {st : List Int64} (h_ : zCS p w J L J0 L0 st) : ∀ a, a ≠ p 25 → J a = J0 a := h_.2.2.2.2.1
theorem zCS.oj2 {p : Nat → Nat} {w : Nat → Int64} {J : Nat → Nat → Int32} {L : Nat → Nat → Int64} {J0 : Nat → Nat → Int32} {L0 : Nat → Nat → Int64} {st : List Int64} (h_ : zCS p w J L J0 L0 st) : ∀ j, j ≠ 2 → J (p 25) j = J0 (p 25) j := h_.2.2.2.2.2.1
theorem zCS.ol {p : Nat → Nat} {w : Nat → Int64} {J : Nat → Nat → Int32} {L : Nat → Nat → Int64} {J0 : Nat → Nat → Int32} {L0 : Nat → Nat → Int64} {st : List Int64} (h_ : zCS p w J L J0 L0 st) : ∀ a, a ≠ p 25 → a ≠ p 27 → L a = L0 a := h_.2.2.2.2.2.2
def zpd (p : Nat → Nat) : Prop := ∀ i j, i < 66 → j < 66 → i ≠ j → p i ≠ p j
theorem zc_push {p : Nat → Nat} {w : Nat → Int64} {J J0 : Nat → Nat → Int32} {L L0 : Nat → Nat → Int64} {st : List Int64} {v : Int64} (hp : zpd p) (h : zCS p w J L J0 L0 st) (hl : st.length < 60) : zCS p w (x42 p v J L).1 (x42 p v J L).2 J0 L0 (v :: st) := by
  have t := h.top
  have c : ¬ Int32.ofNat 60 ≤ J (p 25) 2 := fun c => by
    have c := z_ge.mp c
    rw [show (Int32.ofNat 60).toInt = 60 from by decide] at c
    omega
  have e1 : (J (p 25) 2 + Int32.ofInt 1).toInt = st.length + 1 := by
    rw [lx_inc c]
    omega
  have e2 : (J (p 25) 2).toNatClampNeg = st.length := z_i3 t
  unfold x42
  rw [if_neg c, e2]
  refine ⟨?_, by simp; omega, ?_, ?_, ?_, ?_, ?_⟩
  · show (nt_u J (p 25) 2 (J (p 25) 2 + Int32.ofInt 1) (p 25) 2).toInt = _
    rw [me_us, e1]
    simp
  · show nt_u L (p 27) st.length v (p 27) st.length = v ∧ zst (nt_u L (p 27) st.length v (p 27)) st
    exact ⟨mu_s, zst_ag _ (fun i hi => mu_k (by omega)) h.row⟩
  · intro k hk
    show nt_u L (p 27) st.length v (p 26) k = _
    rw [mu_j (hp 26 27 (by omega) (by omega) (by omega))]
    exact h.wd k hk
  · intro a ha
    exact (me_uo ha).trans (h.oj a ha)
  · intro j hj
    exact (me_uk hj).trans (h.oj2 j hj)
  · intro a ha hb
    exact (mu_o hb).trans (h.ol a ha hb)
theorem zc_apply {p : Nat → Nat} {w : Nat → Int64} {J J0 : Nat → Nat → Int32} {L L0 : Nat → Nat → Int64} {st s : List Int64} {x : Int32} (hp : zpd p) (h : zCS p w J L J0 L0 st) (hs : zap x st = some s) : zCS p w (x43 p x J L).1 (x43 p x J L).2 J0 L0 s := by
  have t := h.top
  have le := h.le
  have ro := h.row
  unfold zap at hs
  by_cases c : x = Int32.ofInt 21
  · rw [if_pos c] at hs
    cases st with
    | nil => cases hs
    | cons a r =>
      cases hs
      have t : (J (p 25) 2).toInt = (r.length + 1 : Nat) := t
      have g : ¬ J (p 25) 2 < Int32.ofInt 1 := fun c => by
        have c := Int32.lt_iff_toInt_lt.mp c
        rw [show (Int32.ofInt 1).toInt = 1 from by decide] at c
        omega
      have e : (J (p 25) 2 - Int32.ofInt 1).toNatClampNeg = r.length := by
        apply z_i3
        rw [show (J (p 25) 2 - Int32.ofInt 1).toInt = _ from z_sub (k := 1) t (by omega) (by simp at le; omega)]
        rfl
      unfold x43
      rw [if_pos c, if_neg g, e, ro.1]
      refine ⟨t, le, ⟨mu_s, zst_ag _ (fun i hi => mu_k (by omega)) ro.2⟩, ?_, h.oj, h.oj2, ?_⟩
      · intro k hk
        show nt_u L (p 27) r.length _ (p 26) k = _
        rw [mu_j (hp 26 27 (by omega) (by omega) (by omega))]
        exact h.wd k hk
      · intro b hb hc
        exact (mu_o hc).trans (h.ol b hb hc)
  · rw [if_neg c] at hs
    cases st with
    | nil => cases hs
    | cons b r1 =>
      cases r1 with
      | nil => cases hs
      | cons a r =>
        cases hs
        have t : (J (p 25) 2).toInt = (r.length + 2 : Nat) := t
        have le : r.length + 2 ≤ 60 := le
        have g : ¬ J (p 25) 2 < Int32.ofInt 2 := fun c => by
          have c := Int32.lt_iff_toInt_lt.mp c
          rw [show (Int32.ofInt 2).toInt = 2 from by decide] at c
          omega
        have e0 : (J (p 25) 2 - Int32.ofInt 1).toInt = (r.length + 1 : Nat) := z_sub (k := 1) t (by omega) (by omega)
        have e1 : (J (p 25) 2 - Int32.ofInt 1).toNatClampNeg = r.length + 1 := z_i3 e0
        have e2 : (J (p 25) 2 - Int32.ofInt 1 - Int32.ofInt 1).toNatClampNeg = r.length := z_i3 (z_sub (k := 1) e0 (by omega) (by omega))
        unfold x43
        rw [if_neg c, if_neg g, e2, e1, show L (p 27) (r.length + 1) = b from ro.1, show L (p 27) r.length = a from ro.2.1]
        refine ⟨?_, by simp; omega, ⟨mu_s, zst_ag _ (fun i hi => mu_k (by omega)) ro.2.2⟩, ?_, ?_, ?_, ?_⟩
        · show (nt_u J (p 25) 2 _ (p 25) 2).toInt = _
          rw [me_us, e0]
          rfl
        · intro k hk
          show nt_u L (p 27) r.length _ (p 26) k = _
          rw [mu_j (hp 26 27 (by omega) (by omega) (by omega))]
          exact h.wd k hk
        · intro d hd
          exact (me_uo hd).trans (h.oj d hd)
        · intro j hj
          exact (me_uk hj).trans (h.oj2 j hj)
        · intro d hd hc
          exact (mu_o hc).trans (h.ol d hd hc)
/-- the class: steps that are no TAKE -/
theorem zc_run {p : Nat → Nat} {sp ln : Nat} {w : Nat → Int64} {J0 : Nat → Nat → Int32} {L0 : Nat → Nat → Int64} {g : Nat → Int32} (hp : zpd p) (hsp : sp ≠ p 25) (hg : ∀ j, j < ln → J0 sp j = g j) (hln : ln ≤ 400) : ∀ (n a c : Nat) (st s : List Int64) (J : Nat → Nat → Int32) (L : Nat → Nat → Int64), zCS p w J L J0 L0 st → a + n ≤ ln → st.length + zpc g n a ≤ 60 → (∀ j, a ≤ j → j < a + n → g j ≠ Int32.ofInt 22 ∧ g j ≠ Int32.ofInt 23) → zcr w g n a st = some s → ∃ J1 L1, zCS p w J1 L1 J0 L0 s ∧ x41_7 p sp ln (c + n) (Int32.ofInt (a : Int)) J L = x41_7 p sp ln c (Int32.ofInt ((a + n : Nat) : Int)) J1 L1 := by
  intro n
  induction n with
  | zero =>
    intro a c st s J L h ha hl ht hr
    cases hr
    exact ⟨J, L, h, rfl⟩
  | succ n ih =>
    intro a c st s J L h ha hl ht hr
    rw [zcr] at hr
    cases hz : zcs w (g a) st with
    | none =>
      rw [hz] at hr
      cases hr
    | some s1 =>
      rw [hz] at hr
      have hr : zcr w g n (a + 1) s1 = some s := hr
      have l1 := zcs_len hz
      rw [zpc] at hl
      have ia : (Int32.ofInt (a : Int)).toNatClampNeg = a := zi_o (by omega)
      have ea : J sp a = g a := (congrFun (h.oj sp hsp) a).trans (hg a (by omega))
      have e1 : Int32.ofInt (a : Int) + Int32.ofInt 1 = Int32.ofInt ((a + 1 : Nat) : Int) := by
        rw [← Int32.ofInt_add]
        rfl
      have nb : ¬ Int32.ofNat ln ≤ Int32.ofInt (a : Int) := fun c => by
        have c := z_ge.mp c
        rw [xi_k (by omega), show Int32.ofNat ln = Int32.ofInt (ln : Int) from rfl, xi_k (by omega)] at c
        omega
      have hx := ht a (by omega) (by omega)
      have key : ∃ J1 L1, zCS p w J1 L1 J0 L0 s1 ∧ x41_7 p sp ln (c + (n + 1)) (Int32.ofInt (a : Int)) J L = x41_7 p sp ln (c + n) (Int32.ofInt ((a + 1 : Nat) : Int)) J1 L1 := by
        rw [show c + (n + 1) = (c + n) + 1 from by omega, x41_7, if_neg nb, ia, ea, e1]
        unfold zcs at hz
        by_cases c1 : g a < Int32.ofInt 100
        · rw [if_pos c1] at hz ⊢
          by_cases c2 : g a < 0
          · rw [if_pos c2] at hz ⊢
            rw [if_neg hx.1, if_neg hx.2]
            exact ⟨_, _, zc_apply hp h hz, rfl⟩
          · rw [if_neg c2] at hz ⊢
            by_cases c3 : Int32.ofInt 10 ≤ g a
            · rw [if_pos c3] at hz ⊢
              rw [if_neg hx.1, if_neg hx.2]
              exact ⟨_, _, zc_apply hp h hz, rfl⟩
            · rw [if_neg c3] at hz ⊢
              cases hz
              have k10 : (g a).toNatClampNeg < 10 := by
                have d : ¬ (Int32.ofInt 10).toInt ≤ (g a).toInt := fun z => c3 (z_ge.mpr z)
                rw [show (Int32.ofInt 10).toInt = 10 from by decide] at d
                rw [zn_t]
                omega
              rw [if_pos (show zpu (g a) from Or.inr ⟨c2, c3⟩)] at hl
              rw [h.wd _ k10]
              exact ⟨_, _, zc_push hp h (by omega), rfl⟩
        · rw [if_neg c1] at hz ⊢
          cases hz
          rw [if_pos (show zpu (g a) from Or.inl c1)] at hl
          exact ⟨_, _, zc_push hp h (by omega), rfl⟩
      obtain ⟨J1, L1, h1, e2⟩ := key
      obtain ⟨J2, L2, h2, e3⟩ := ih (a + 1) c s1 s J1 L1 h1 (by omega) (by omega) (fun j h1 h2 => ht j (by omega) (by omega)) hr
      refine ⟨J2, L2, h2, ?_⟩
      rw [e2, e3, show a + 1 + n = a + (n + 1) from by omega]
/-! the reference -/
def zrs (w : Nat → Int64) (y : Int32) (st : List Int64) : Option (List Int64) := if (y &&& Int32.ofInt 15) = 0 then some ((y >>> (Int32.ofInt 4 &&& 31)).toInt64 :: st) else if (y &&& Int32.ofInt 15) = Int32.ofInt 1 then some (w (y >>> (Int32.ofInt 4 &&& 31)).toNatClampNeg :: st) else if (y &&& Int32.ofInt 15) = Int32.ofInt 11 then (match st with | a :: r => some ((Int64.ofNat 1 - a) :: r) | [] => none) else (match st with | b :: a :: r => some (x201 (y &&& Int32.ofInt 15) a b :: r) | _ => none)
def zwk (y : Int32) : Prop := (y &&& Int32.ofInt 15) = Int32.ofInt 1 → (y >>> (Int32.ofInt 4 &&& 31)).toNatClampNeg < 10
def zrr (w : Nat → Int64) (g : Nat → Int32) : Nat → Nat → List Int64 → Option (List Int64)
  | 0, _, st => some st
  | n + 1, a, st => (zrs w (g a) st).bind (zrr w g n (a + 1))
theorem zrr_add {w : Nat → Int64} {g : Nat → Int32} {m : Nat} : ∀ (n a : Nat) (st : List Int64), zrr w g (n + m) a st = (zrr w g n a st).bind (zrr w g m (a + n)) := by
  intro n
  induction n with
  | zero => intro a st; rw [Nat.zero_add]; rfl
  | succ n ih =>
    intro a st
    rw [show n + 1 + m = (n + m) + 1 from by omega, zrr, zrr]
    cases zrs w (g a) st with
    | none => rfl
    | some s =>
      show zrr w g (n + m) (a + 1) s = (zrr w g n (a + 1) s).bind _
      rw [ih, show a + 1 + n = a + (n + 1) from by omega]
theorem zrr_ag {w : Nat → Int64} {g h : Nat → Int32} : ∀ (n a : Nat) (st : List Int64), (∀ j, a ≤ j → j < a + n → h j = g j) → zrr w h n a st = zrr w g n a st := by
  intro n
  induction n with
  | zero => intro a st _; rfl
  | succ n ih =>
    intro a st hg
    rw [zrr, zrr, hg a (by omega) (by omega)]
    congr 1
    funext s
    exact ih _ _ (fun j h1 h2 => hg j (by omega) (by omega))
theorem zrs_len {w : Nat → Int64} {y : Int32} {st s : List Int64} (h : zrs w y st = some s) : s.length ≤ st.length + 1 := by
  unfold zrs at h
  split at h
  · cases h; simp
  · split at h
    · cases h; simp
    · split at h
      · split at h
        · cases h; simp
        · cases h
      · split at h
        · cases h; simp
        · cases h
def zRS (p : Nat → Nat) (w : Nat → Int64) (J : Nat → Nat → Int32) (L : Nat → Nat → Int64) (J0 : Nat → Nat → Int32) (L0 : Nat → Nat → Int64) (st : List Int64) : Prop := ((J (p 0) 25).toInt = (st.length : Nat)) ∧ (zst (L (p 5)) st) ∧ (∀ k, k < 10 → L (p 6) k = w k) ∧ (∀ a, a ≠ p 0 → J a = J0 a) ∧ (∀ j, j ≠ 25 → J (p 0) j = J0 (p 0) j) ∧ (∀ a, a ≠ p 5 → L a = L0 a)
theorem zRS.top {p : Nat → Nat} {w : Nat → Int64} {J : Nat → Nat → Int32} {L : Nat → Nat → Int64} {J0 : Nat → Nat → Int32} {L0 : Nat → Nat → Int64} {st : List Int64} (h_ : zRS p w J L J0 L0 st) : (J (p 0) 25).toInt = (st.length : Nat) := h_.1
theorem zRS.row {p : Nat → Nat} {w : Nat → Int64} {J : Nat → Nat → Int32} {L : Nat → Nat → Int64} {J0 : Nat → Nat → Int32} {L0 : Nat → Nat → Int64} {st : List Int64} (h_ : zRS p w J L J0 L0 st) : zst (L (p 5)) st := h_.2.1
theorem zRS.wd {p : Nat → Nat} {w : Nat → Int64} {J : Nat → Nat → Int32} {L : Nat → Nat → Int64} {J0 : Nat → Nat → Int32} {L0 : Nat → Nat → Int64} {st : List Int64} (h_ : zRS p w J L J0 L0 st) : ∀ k, k < 10 → L (p 6) k = w k := h_.2.2.1
theorem zRS.oj {p : Nat → Nat} {w : Nat → Int64} {J : Nat → Nat → Int32} {L : Nat → Nat → Int64} {J0 : Nat → Nat → Int32} {L0 : Nat → Nat → Int64} {st : List Int64} (h_ : zRS p w J L J0 L0 st) : ∀ a, a ≠ p 0 → J a = J0 a := h_.2.2.2.1
theorem zRS.oj2 {p : Nat → Nat} {w : Nat → Int64} {J : Nat → Nat → Int32} {L : Nat → Nat → Int64} {J0 : Nat → Nat → Int32} {L0 : Nat → Nat → Int64} {st : List Int64} (h_ : zRS p w J L J0 L0 st) : ∀ j, j ≠ 25 → J (p 0) j = J0 (p 0) j := h_.2.2.2.2.1
theorem zRS.ol {p : Nat → Nat} {w : Nat → Int64} {J : Nat → Nat → Int32} {L : Nat → Nat → Int64} {J0 : Nat → Nat → Int32} {L0 : Nat → Nat → Int64} {st : List Int64} (h_ : zRS p w J L J0 L0 st) : ∀ a, a ≠ p 5 → L a = L0 a := h_.2.2.2.2.2
theorem zr_push {p : Nat → Nat} {w : Nat → Int64} {J J0 : Nat → Nat → Int32} {L L0 : Nat → Nat → Int64} {st : List Int64} {v : Int64} (hp : zpd p) (h : zRS p w J L J0 L0 st) (hl : st.length < 900) : zRS p w (x199 p v J L).1 (x199 p v J L).2 J0 L0 (v :: st) := by
  have t := h.top
  have e1 : (J (p 0) 25 + Int32.ofInt 1).toInt = st.length + 1 := by
    rw [Int32.toInt_add, show (Int32.ofInt 1).toInt = 1 from by decide, Int.bmod_eq_of_le (by omega) (by omega)]
    omega
  have e2 : (J (p 0) 25).toNatClampNeg = st.length := z_i3 t
  unfold x199
  rw [e2]
  refine ⟨?_, ⟨mu_s, zst_ag _ (fun i hi => mu_k (by omega)) h.row⟩, ?_, ?_, ?_, ?_⟩
  · show (nt_u J (p 0) 25 (J (p 0) 25 + Int32.ofInt 1) (p 0) 25).toInt = _
    rw [me_us, e1]
    simp
  · intro k hk
    show nt_u L (p 5) st.length v (p 6) k = _
    rw [mu_j (hp 6 5 (by omega) (by omega) (by omega))]
    exact h.wd k hk
  · intro a ha
    exact (me_uo ha).trans (h.oj a ha)
  · intro j hj
    exact (me_uk hj).trans (h.oj2 j hj)
  · intro a ha
    exact (mu_o ha).trans (h.ol a ha)
theorem zr_pop {p : Nat → Nat} {w : Nat → Int64} {J J0 : Nat → Nat → Int32} {L L0 : Nat → Nat → Int64} {r : List Int64} {v : Int64} (h : zRS p w J L J0 L0 (v :: r)) (hl : r.length < 900) : (x200 p J L).1 = v ∧ zRS p w (x200 p J L).2 L J0 L0 r := by
  have t : (J (p 0) 25).toInt = (r.length + 1 : Nat) := h.top
  have e0 : (J (p 0) 25 - Int32.ofInt 1).toInt = (r.length : Nat) := z_sub (k := 1) t (by omega) (by omega)
  have e1 := z_i3 e0
  unfold x200
  refine ⟨?_, ?_, h.row.2, h.wd, ?_, ?_, h.ol⟩
  · show L (p 5) (J (p 0) 25 - Int32.ofInt 1).toNatClampNeg = v
    rw [e1]
    exact h.row.1
  · show (nt_u J (p 0) 25 _ (p 0) 25).toInt = _
    rw [me_us, e0]
  · intro a ha
    exact (me_uo ha).trans (h.oj a ha)
  · intro j hj
    exact (me_uk hj).trans (h.oj2 j hj)
theorem zr_run {p : Nat → Nat} {t e : Int32} {T E : Nat} {w : Nat → Int64} {J0 : Nat → Nat → Int32} {L0 : Nat → Nat → Int64} {g : Nat → Int32} (hp : zpd p) (ht : t.toInt = (T : Nat)) (hT : T < 6) (he : e.toInt = (E : Nat)) (hE : E ≤ 400) (hg : ∀ j, j < E → J0 (p 1) (400 * T + j) = g j) : ∀ (n a : Nat) (st s : List Int64) (J : Nat → Nat → Int32) (L : Nat → Nat → Int64), zRS p w J L J0 L0 st → a + n = E → st.length + n ≤ 800 → (∀ j, a ≤ j → j < a + n → zwk (g j)) → zrr w g n a st = some s → ∃ J1 L1, zRS p w J1 L1 J0 L0 s ∧ x198_8 p t e n (Int32.ofInt (a : Int)) J L = ((x200 p J1 L1).1, (x200 p J1 L1).2, L1) := by
  intro n
  induction n with
  | zero =>
    intro a st s J L h ha hl hw hr
    cases hr
    exact ⟨J, L, h, rfl⟩
  | succ n ih =>
    intro a st s J L h ha hl hw hr
    rw [zrr] at hr
    cases hz : zrs w (g a) st with
    | none =>
      rw [hz] at hr
      cases hr
    | some s1 =>
      rw [hz] at hr
      have hr : zrr w g n (a + 1) s1 = some s := hr
      have l1 := zrs_len hz
      have ia : ((Int32.ofInt 400 * t) + Int32.ofInt (a : Int)).toNatClampNeg = 400 * T + a := by
        show Int.toNat _ = _
        rw [Int32.toInt_add, Int32.toInt_mul, xi_k (by omega), ht, show (Int32.ofInt 400).toInt = 400 from by decide, Int.bmod_eq_of_le (n := (400 * T : Int)) (by omega) (by omega), Int.bmod_eq_of_le (by omega) (by omega)]
        omega
      have ea : J (p 1) (400 * T + a) = g a := (congrFun (h.oj (p 1) (hp 1 0 (by omega) (by omega) (by omega))) _).trans (hg a (by omega))
      have e1 : Int32.ofInt (a : Int) + Int32.ofInt 1 = Int32.ofInt ((a + 1 : Nat) : Int) := by
        rw [← Int32.ofInt_add]
        rfl
      have nb : ¬ e ≤ Int32.ofInt (a : Int) := fun c => by
        have c := z_ge.mp c
        rw [xi_k (by omega), he] at c
        omega
      have hx := hw a (by omega) (by omega)
      have key : ∃ J1 L1, zRS p w J1 L1 J0 L0 s1 ∧ x198_8 p t e (n + 1) (Int32.ofInt (a : Int)) J L = x198_8 p t e n (Int32.ofInt ((a + 1 : Nat) : Int)) J1 L1 := by
        rw [x198_8, if_neg nb, ia, ea, e1]
        unfold zrs at hz
        by_cases c1 : (g a &&& Int32.ofInt 15) = 0
        · rw [if_pos c1] at hz ⊢
          cases hz
          exact ⟨_, _, zr_push hp h (by omega), rfl⟩
        · rw [if_neg c1] at hz ⊢
          by_cases c2 : (g a &&& Int32.ofInt 15) = Int32.ofInt 1
          · rw [if_pos c2] at hz ⊢
            cases hz
            rw [h.wd _ (hx c2)]
            exact ⟨_, _, zr_push hp h (by omega), rfl⟩
          · rw [if_neg c2] at hz ⊢
            by_cases c3 : (g a &&& Int32.ofInt 15) = Int32.ofInt 11
            · rw [if_pos c3] at hz ⊢
              cases st with
              | nil => cases hz
              | cons v r =>
                cases hz
                simp at hl
                have q := zr_pop h (by omega)
                rw [q.1]
                exact ⟨_, _, zr_push hp q.2 (by omega), rfl⟩
            · rw [if_neg c3] at hz ⊢
              cases st with
              | nil => cases hz
              | cons b r1 =>
                cases r1 with
                | nil => cases hz
                | cons v r =>
                  cases hz
                  simp at hl
                  have q := zr_pop h (by simp; omega)
                  have q2 := zr_pop q.2 (by omega)
                  rw [q.1, q2.1]
                  exact ⟨_, _, zr_push hp q2.2 (by omega), rfl⟩
      obtain ⟨J1, L1, h1, e2⟩ := key
      obtain ⟨J2, L2, h2, e3⟩ := ih (a + 1) s1 s J1 L1 h1 (by omega) (by omega) (fun j h1 h2 => hw j (by omega) (by omega)) hr
      exact ⟨J2, L2, h2, by rw [e2, e3]⟩
end
section
/-! a rule, as both sides hold it -/
def zsg (g h : Nat → Int32) (m a n b : Nat) (B : Int64 → Prop) : Prop := (∀ w, ∃ v, B v ∧ ∀ st, zcr w g m a st = some (v :: st) ∧ zrr w h n b st = some (v :: st)) ∧ (∀ j, a ≤ j → j < a + m → g j ≠ Int32.ofInt 22 ∧ g j ≠ Int32.ofInt 23) ∧ (∀ j, b ≤ j → j < b + n → zwk (h j))
theorem zcr_len {w : Nat → Int64} {g : Nat → Int32} : ∀ (n a : Nat) (st s : List Int64), zcr w g n a st = some s → s.length ≤ st.length + zpc g n a := by
  intro n
  induction n with
  | zero =>
    intro a st s h
    cases h
    exact Nat.le_add_right _ _
  | succ n ih =>
    intro a st s h
    rw [zcr] at h
    cases hz : zcs w (g a) st with
    | none =>
      rw [hz] at h
      cases h
    | some s1 =>
      rw [hz] at h
      have a1 := zcs_len hz
      have a2 := ih (a + 1) s1 s h
      rw [zpc]
      omega
def zCl (g h : Nat → Int32) (cl : Nat → Int32) (a a' : Nat) : Prop := ∃ m1 n0 n1 : Nat, (cl 0).toInt = n0 ∧ (cl 1).toInt = n1 ∧ n0 ≤ n1 ∧ n1 ≤ 400 ∧ zsg g h m1 a (n1 - n0) n0 (fun _ => True) ∧
  ((cl 2 < 0 ∧ g (a + m1) = Int32.ofInt 22 ∧ a' = a + m1 + 1 ∧ zpc g m1 a ≤ 60) ∨
   (∃ m2 n2 n3 : Nat, (cl 2).toInt = n2 ∧ (cl 3).toInt = n3 ∧ n2 ≤ n3 ∧ n3 ≤ 400 ∧ zsg g h m2 (a + m1) (n3 - n2) n2 (fun v => v = 0 ∨ v = 1) ∧ g (a + m1 + m2) = Int32.ofInt 23 ∧ a' = a + m1 + m2 + 1 ∧ zpc g m1 a + zpc g m2 (a + m1) ≤ 60))
def zRu (g h : Nat → Int32) (cl : Nat → Int32) (k ln : Nat) : Prop := ∃ pos : Nat → Nat, pos 0 = 0 ∧ pos k = ln ∧ (∀ i, i < k → zCl g h (fun r => cl (4 * i + r)) (pos i) (pos (i + 1)))
theorem zCl_lt {g h cl : Nat → Int32} {a a' : Nat} (c : zCl g h cl a a') : a < a' := by
  obtain ⟨m1, n0, n1, _, _, _, _, _, c | ⟨m2, n2, n3, _, _, _, _, _, _, c, _⟩⟩ := c
  · have := c.2.2.1
    omega
  · omega
theorem zpos_le {g h cl : Nat → Int32} {k : Nat} {pos : Nat → Nat} (hc : ∀ i, i < k → zCl g h (fun r => cl (4 * i + r)) (pos i) (pos (i + 1))) : ∀ m i, i + m = k → pos i ≤ pos k := by
  intro m
  induction m with
  | zero => intro i hi; rw [show i = k from by omega]; exact Nat.le_refl _
  | succ m ih =>
    intro i hi
    have a := ih (i + 1) (by omega)
    have b := zCl_lt (hc i (by omega))
    omega
/-- the reference reckons a stretch -/
theorem zr_seg {p : Nat → Nat} {t b e : Int32} {T n0 n1 : Nat} {w : Nat → Int64} {J : Nat → Nat → Int32} {L : Nat → Nat → Int64} {h : Nat → Int32} {v : Int64} (hp : zpd p) (ht : t.toInt = (T : Nat)) (hT : T < 6) (hb : b.toInt = (n0 : Nat)) (he : e.toInt = (n1 : Nat)) (hle : n0 ≤ n1) (hE : n1 ≤ 400) (hg : ∀ j, j < 400 → J (p 1) (400 * T + j) = h j) (hw : ∀ k, k < 10 → L (p 6) k = w k) (hk : ∀ j, n0 ≤ j → j < n0 + (n1 - n0) → zwk (h j)) (hr : zrr w h (n1 - n0) n0 [] = some [v]) : (x198 p t b e J L).1 = v ∧ (∀ a, a ≠ p 0 → (x198 p t b e J L).2.1 a = J a) ∧ (∀ a, a ≠ p 5 → (x198 p t b e J L).2.2 a = L a) := by
  have h0 : zRS p w (nt_u J (p 0) 25 (Int32.ofInt 0)) L J L [] := ⟨by rw [me_us]; rfl, trivial, hw, fun a ha => me_uo ha, fun j hj => me_uk hj, fun _ _ => rfl⟩
  obtain ⟨J1, L1, h1, e1⟩ := zr_run (t := t) (e := e) hp ht hT he hE (fun j hj => hg j (by omega)) (n1 - n0) n0 [] [v] _ _ h0 (by omega) (by simp; omega) hk hr
  have q := zr_pop h1 (by simp)
  have eb : b = Int32.ofInt (n0 : Int) := z_eqn hb (by omega)
  have ef : (e.toInt - b.toInt).toNat = n1 - n0 := by omega
  unfold x198
  rw [ef, eb, e1]
  exact ⟨q.1, fun a ha => q.2.oj a ha, fun a ha => q.2.ol a ha⟩
theorem z_cb {b : Int64} (h : b = 0 ∨ b = 1) : (lg_cmp b (Int64.ofNat 0) = 0 ↔ b = 0) ∧ (lg_cmp b (Int64.ofNat 1) = 0 ↔ b = 1) := by
  rcases h with rfl | rfl <;> decide
/-- both take a plank, or neither; and by the same sum -/
theorem zT_l {p : Nat → Nat} {sp ln k T : Nat} {t : Int32} {w : Nat → Int64} {g h cl : Nat → Int32} {Jc0 Jr0 : Nat → Nat → Int32} {Lc0 Lr0 : Nat → Nat → Int64} {pos : Nat → Nat} (hp : zpd p) (hsp : sp ≠ p 25) (hln : ln ≤ 400) (hk : k ≤ 12) (ht : t.toInt = (T : Nat)) (hT : T < 6)
    (hg : ∀ j, j < ln → Jc0 sp j = g j) (hh : ∀ j, j < 400 → Jr0 (p 1) (400 * T + j) = h j) (hcl : ∀ j, j < 48 → Jr0 (p 2) (48 * T + j) = cl j) (hck : (Jr0 (p 3) T).toInt = (k : Nat))
    (hpk : pos k = ln) (hc : ∀ i, i < k → zCl g h (fun r => cl (4 * i + r)) (pos i) (pos (i + 1))) :
    ∀ (m i : Nat) (Jc Jr : Nat → Nat → Int32) (Lc Lr : Nat → Nat → Int64), i + m = k → zCS p w Jc Lc Jc0 Lc0 [] → (∀ a, a ≠ p 0 → Jr a = Jr0 a) → (∀ a, a ≠ p 5 → Lr a = Lr0 a) → (∀ j, j < 10 → Lr0 (p 6) j = w j) →
    ((x41_7 p sp ln (ln - pos i) (Int32.ofInt ((pos i : Nat) : Int)) Jc Lc).1 = Int32.ofInt 0 ∧ (x197_2 p t m (Int32.ofInt (i : Int)) Jr Lr).1 = Int32.ofInt (-1)) ∨
    ((x41_7 p sp ln (ln - pos i) (Int32.ofInt ((pos i : Nat) : Int)) Jc Lc).1 = Int32.ofInt 1 ∧ 0 ≤ (x197_2 p t m (Int32.ofInt (i : Int)) Jr Lr).1.toInt ∧
      (x41_7 p sp ln (ln - pos i) (Int32.ofInt ((pos i : Nat) : Int)) Jc Lc).2.2 (p 25) 3 = (x198 p t (Jr0 (p 2) ((x197_2 p t m (Int32.ofInt (i : Int)) Jr Lr).1.toNatClampNeg)) (Jr0 (p 2) (((x197_2 p t m (Int32.ofInt (i : Int)) Jr Lr).1 + Int32.ofInt 1).toNatClampNeg)) (x197_2 p t m (Int32.ofInt (i : Int)) Jr Lr).2.1 (x197_2 p t m (Int32.ofInt (i : Int)) Jr Lr).2.2).1) := by
  have i48 : ∀ i r : Nat, i < 12 → r < 4 → ((((Int32.ofInt 48) * t) + ((Int32.ofInt 4) * Int32.ofInt (i : Int))) + Int32.ofInt (r : Int)).toInt = ((48 * T + 4 * i + r : Nat) : Int) := by
    intro i r hi hr
    rw [Int32.toInt_add, Int32.toInt_add, Int32.toInt_mul, Int32.toInt_mul, xi_k (by omega), xi_k (by omega), ht, show (Int32.ofInt 48).toInt = 48 from by decide, show (Int32.ofInt 4).toInt = 4 from by decide, Int.bmod_eq_of_le (n := (48 * T : Int)) (by omega) (by omega), Int.bmod_eq_of_le (n := (4 * i : Int)) (by omega) (by omega), Int.bmod_eq_of_le (n := (48 * T + 4 * i : Int)) (by omega) (by omega), Int.bmod_eq_of_le (by omega) (by omega)]
    omega
  have i480 : ∀ i : Nat, i < 12 → (((Int32.ofInt 48) * t) + ((Int32.ofInt 4) * Int32.ofInt (i : Int))).toInt = ((48 * T + 4 * i : Nat) : Int) := by
    intro i hi
    have z := i48 i 0 hi (by omega)
    rw [show ((((Int32.ofInt 48) * t) + ((Int32.ofInt 4) * Int32.ofInt (i : Int))) + Int32.ofInt ((0 : Nat) : Int)) = (((Int32.ofInt 48) * t) + ((Int32.ofInt 4) * Int32.ofInt (i : Int))) from Int32.add_zero _] at z
    exact z
  have n0 : p 1 ≠ p 0 := hp 1 0 (by omega) (by omega) (by omega)
  have n2 : p 2 ≠ p 0 := hp 2 0 (by omega) (by omega) (by omega)
  have n3 : p 3 ≠ p 0 := hp 3 0 (by omega) (by omega) (by omega)
  have n6 : p 6 ≠ p 5 := hp 6 5 (by omega) (by omega) (by omega)
  intro m
  induction m with
  | zero =>
    intro i Jc Jr Lc Lr hi hC hJ hL hw
    left
    rw [show i = k from by omega, hpk, Nat.sub_self]
    exact ⟨rfl, rfl⟩
  | succ m ih =>
    intro i Jc Jr Lc Lr hi hC hJ hL hw
    have ci := hc i (by omega)
    have pl : pos (i + 1) ≤ ln := by
      rw [← hpk]
      exact zpos_le hc m (i + 1) (by omega)
    have i12 : i < 12 := by omega
    have rd : ∀ r : Nat, r < 4 → Jr (p 2) (48 * T + 4 * i + r) = cl (4 * i + r) := by
      intro r hr
      rw [hJ _ n2, show 48 * T + 4 * i + r = 48 * T + (4 * i + r) from by omega]
      exact hcl _ (by omega)
    have rd0 : ∀ r : Nat, r < 4 → Jr0 (p 2) (48 * T + 4 * i + r) = cl (4 * i + r) := by
      intro r hr
      rw [show 48 * T + 4 * i + r = 48 * T + (4 * i + r) from by omega]
      exact hcl _ (by omega)
    have sg : ∀ j, j < 400 → Jr (p 1) (400 * T + j) = h j := fun j hj => by rw [hJ _ n0]; exact hh j hj
    have wr : ∀ j, j < 10 → Lr (p 6) j = w j := fun j hj => by rw [hL _ n6]; exact hw j hj
    have nb : ¬ Jr (p 3) t.toNatClampNeg ≤ Int32.ofInt (i : Int) := fun c => by
      have c := z_ge.mp c
      rw [z_i3 ht, hJ _ n3, hck, xi_k (by omega)] at c
      omega
    have e1 : Int32.ofInt (i : Int) + Int32.ofInt 1 = Int32.ofInt ((i + 1 : Nat) : Int) := by
      rw [← Int32.ofInt_add]
      rfl
    have a2 : ((((Int32.ofInt 48) * t) + ((Int32.ofInt 4) * Int32.ofInt (i : Int))) + Int32.ofInt 2).toNatClampNeg = 48 * T + 4 * i + 2 := z_i3 (i48 i 2 i12 (by omega))
    have a3 : ((((Int32.ofInt 48) * t) + ((Int32.ofInt 4) * Int32.ofInt (i : Int))) + Int32.ofInt 3).toNatClampNeg = 48 * T + 4 * i + 3 := z_i3 (i48 i 3 i12 (by omega))
    have a1 : ((((Int32.ofInt 48) * t) + ((Int32.ofInt 4) * Int32.ofInt (i : Int))) + Int32.ofInt 1).toNatClampNeg = 48 * T + 4 * i + 1 := z_i3 (i48 i 1 i12 (by omega))
    have a0 : (((Int32.ofInt 48) * t) + ((Int32.ofInt 4) * Int32.ofInt (i : Int))).toNatClampNeg = 48 * T + 4 * i := z_i3 (i480 i i12)
    obtain ⟨m1, c0, c1, h0, h1, hle, h400, hs, hrest⟩ := ci
    obtain ⟨v, _, hvs⟩ := hs.1 w
    obtain ⟨hv1, hv2⟩ := hvs []
    -- the sum of this clause, as the reference reckons it in any memory of this rule
    have sum : ∀ (J : Nat → Nat → Int32) (L : Nat → Nat → Int64), (∀ a, a ≠ p 0 → J a = Jr0 a) → (∀ a, a ≠ p 5 → L a = Lr0 a) → (x198 p t (Jr0 (p 2) (48 * T + 4 * i)) (Jr0 (p 2) (48 * T + 4 * i + 1)) J L).1 = v := by
      intro J L hJ hL
      exact (zr_seg hp ht hT (by rw [show Jr0 (p 2) (48 * T + 4 * i) = cl (4 * i + 0) from rd0 0 (by omega)]; exact h0) (by rw [rd0 1 (by omega)]; exact h1) hle h400 (fun j hj => by rw [hJ _ n0]; exact hh j hj) (fun j hj => by rw [hL _ n6]; exact hw j hj) hs.2.2 hv2).1
    rcases hrest with ⟨c2, g22, ea', hpc⟩ | ⟨m2, d2, d3, h2, h3, hle2, h4002, hs2, g23, ea', hpc⟩
    · obtain ⟨J1, L1, hC1, er⟩ := zc_run hp hsp hg hln m1 (pos i) (ln - pos i - m1) [] [v] Jc Lc hC (by omega) (by simp; omega) hs.2.1 hv1
      rw [show ln - pos i - m1 + m1 = ln - pos i from by omega] at er
      have ex : x41_7 p sp ln (ln - pos i - m1) (Int32.ofInt ((pos i + m1 : Nat) : Int)) J1 L1 = (Int32.ofInt 1, J1, nt_u L1 (p 25) 3 (L1 (p 27) 0)) := by
        rw [show ln - pos i - m1 = (ln - pos i - m1 - 1) + 1 from by omega, x41_7, if_neg (fun c => by
          have c := z_ge.mp c
          rw [xi_k (by omega), show Int32.ofNat ln = Int32.ofInt (ln : Int) from rfl, xi_k (by omega)] at c
          omega), zi_o (by omega), show J1 sp (pos i + m1) = Int32.ofInt 22 from by rw [hC1.oj sp hsp, hg _ (by omega), g22]]
        rfl
      rw [er, ex, x197_2, if_neg nb, a2, rd 2 (by omega), if_pos c2]
      right
      refine ⟨rfl, ?_, ?_⟩
      · show 0 ≤ (((Int32.ofInt 48) * t) + ((Int32.ofInt 4) * Int32.ofInt (i : Int))).toInt
        rw [i480 i i12]
        omega
      · show nt_u L1 (p 25) 3 (L1 (p 27) 0) (p 25) 3 = (x198 p t (Jr0 (p 2) (((Int32.ofInt 48) * t) + ((Int32.ofInt 4) * Int32.ofInt (i : Int))).toNatClampNeg) (Jr0 (p 2) ((((Int32.ofInt 48) * t) + ((Int32.ofInt 4) * Int32.ofInt (i : Int))) + Int32.ofInt 1).toNatClampNeg) Jr Lr).1
        rw [mu_s, a0, a1, sum Jr Lr hJ hL]
        exact hC1.row.1
    · obtain ⟨b, hb, hbs⟩ := hs2.1 w
      have hb1 := (hbs [v]).1
      have hl1 : 1 ≤ zpc g m1 (pos i) := by
        have := zcr_len _ _ _ _ hv1
        simp at this
        omega
      have hb2 := (hbs []).2
      obtain ⟨J1, L1, hC1, er⟩ := zc_run hp hsp hg hln m1 (pos i) (ln - pos i - m1) [] [v] Jc Lc hC (by omega) (by simp; omega) hs.2.1 hv1
      rw [show ln - pos i - m1 + m1 = ln - pos i from by omega] at er
      obtain ⟨J2, L2, hC2, er2⟩ := zc_run hp hsp hg hln m2 (pos i + m1) (ln - pos i - m1 - m2) [v] [b, v] J1 L1 hC1 (by omega) (by simp; omega) hs2.2.1 hb1
      rw [show ln - pos i - m1 - m2 + m2 = ln - pos i - m1 from by omega] at er2
      have ex : x41_7 p sp ln (ln - pos i - m1 - m2) (Int32.ofInt ((pos i + m1 + m2 : Nat) : Int)) J2 L2 = if lg_cmp b (Int64.ofNat 0) = 0 then x41_7 p sp ln (ln - pos (i + 1)) (Int32.ofInt ((pos (i + 1) : Nat) : Int)) (nt_u J2 (p 25) 2 (Int32.ofInt 0)) L2 else (Int32.ofInt 1, J2, nt_u L2 (p 25) 3 (L2 (p 27) 0)) := by
        rw [show ln - pos i - m1 - m2 = (ln - pos (i + 1)) + 1 from by omega, x41_7, if_neg (fun c => by
          have c := z_ge.mp c
          rw [xi_k (by omega), show Int32.ofNat ln = Int32.ofInt (ln : Int) from rfl, xi_k (by omega)] at c
          omega), zi_o (by omega), show J2 sp (pos i + m1 + m2) = Int32.ofInt 23 from by rw [hC2.oj sp hsp, hg _ (by omega), g23], show L2 (p 27) 1 = b from hC2.row.1, show Int32.ofInt ((pos i + m1 + m2 : Nat) : Int) + Int32.ofInt 1 = Int32.ofInt ((pos (i + 1) : Nat) : Int) from by rw [← Int32.ofInt_add, ea']; rfl]
        rfl
      have q := zr_seg (b := Jr (p 2) (48 * T + 4 * i + 2)) (e := Jr (p 2) (48 * T + 4 * i + 3)) (J := Jr) (L := Lr) hp ht hT (by rw [rd 2 (by omega)]; exact h2) (by rw [rd 3 (by omega)]; exact h3) hle2 h4002 sg wr hs2.2.2 hb2
      have nc2 : ¬ Jr (p 2) (48 * T + 4 * i + 2) < 0 := fun c => by
        have c := z_le0.mp c
        rw [rd 2 (by omega), h2] at c
        omega
      have er3 : x197_2 p t (m + 1) (Int32.ofInt (i : Int)) Jr Lr = if lg_cmp b (Int64.ofNat 1) = 0 then ((((Int32.ofInt 48) * t) + ((Int32.ofInt 4) * Int32.ofInt (i : Int))), (x198 p t (Jr (p 2) (48 * T + 4 * i + 2)) (Jr (p 2) (48 * T + 4 * i + 3)) Jr Lr).2.1, (x198 p t (Jr (p 2) (48 * T + 4 * i + 2)) (Jr (p 2) (48 * T + 4 * i + 3)) Jr Lr).2.2) else x197_2 p t m (Int32.ofInt ((i + 1 : Nat) : Int)) (x198 p t (Jr (p 2) (48 * T + 4 * i + 2)) (Jr (p 2) (48 * T + 4 * i + 3)) Jr Lr).2.1 (x198 p t (Jr (p 2) (48 * T + 4 * i + 2)) (Jr (p 2) (48 * T + 4 * i + 3)) Jr Lr).2.2 := by
        rw [x197_2, if_neg nb, a2, a3, if_neg nc2, q.1, e1]
      have hJ2 : ∀ a, a ≠ p 0 → (x198 p t (Jr (p 2) (48 * T + 4 * i + 2)) (Jr (p 2) (48 * T + 4 * i + 3)) Jr Lr).2.1 a = Jr0 a := fun a ha => (q.2.1 a ha).trans (hJ a ha)
      have hL2 : ∀ a, a ≠ p 5 → (x198 p t (Jr (p 2) (48 * T + 4 * i + 2)) (Jr (p 2) (48 * T + 4 * i + 3)) Jr Lr).2.2 a = Lr0 a := fun a ha => (q.2.2 a ha).trans (hL a ha)
      rw [er, er2, ex, er3]
      by_cases c : b = 0
      · rw [if_pos ((z_cb hb).1.mpr c), if_neg (fun d => by rw [(z_cb hb).2.mp d] at c; exact absurd c (by decide))]
        have hC3 : zCS p w (nt_u J2 (p 25) 2 (Int32.ofInt 0)) L2 Jc0 Lc0 [] := ⟨by rw [me_us]; rfl, by simp, trivial, hC2.wd, fun a ha => (me_uo ha).trans (hC2.oj a ha), fun j hj => (me_uk hj).trans (hC2.oj2 j hj), hC2.ol⟩
        exact ih (i + 1) _ _ _ _ (by omega) hC3 hJ2 hL2 hw
      · have c1 : b = 1 := by
          rcases hb with h | h
          · exact absurd h c
          · exact h
        rw [if_neg (fun d => c ((z_cb hb).1.mp d)), if_pos ((z_cb hb).2.mpr c1)]
        right
        refine ⟨rfl, ?_, ?_⟩
        · show 0 ≤ (((Int32.ofInt 48) * t) + ((Int32.ofInt 4) * Int32.ofInt (i : Int))).toInt
          rw [i480 i i12]
          omega
        · show nt_u L2 (p 25) 3 (L2 (p 27) 0) (p 25) 3 = (x198 p t (Jr0 (p 2) (((Int32.ofInt 48) * t) + ((Int32.ofInt 4) * Int32.ofInt (i : Int))).toNatClampNeg) (Jr0 (p 2) ((((Int32.ofInt 48) * t) + ((Int32.ofInt 4) * Int32.ofInt (i : Int))) + Int32.ofInt 1).toNatClampNeg) _ _).1
          rw [mu_s, a0, a1, sum _ _ hJ2 hL2]
          exact hC2.row.2.1
/-- what is known of a rule's cells -/
def zRQ (p : Nat → Nat) (sp ln T : Nat) (Jc Jr : Nat → Nat → Int32) : Prop := (sp ≠ p 25) ∧ (ln ≤ 400) ∧ (T < 6) ∧ (∃ g h cl k, k ≤ 12 ∧ (∀ j, j < ln → Jc sp j = g j) ∧ (∀ j, j < 400 → Jr (p 1) (400 * T + j) = h j) ∧ (∀ j, j < 48 → Jr (p 2) (48 * T + j) = cl j) ∧ (Jr (p 3) T).toInt = ((k : Nat) : Int) ∧ zRu g h cl k ln)
theorem zRQ.sp25 {p : Nat → Nat} {sp ln T : Nat} {Jc Jr : Nat → Nat → Int32} (h_ : zRQ p sp ln T Jc Jr) : sp ≠ p 25 := h_.1
theorem zRQ.ln4 {p : Nat → Nat} {sp ln T : Nat} {Jc Jr : Nat → Nat → Int32} (h_ : zRQ p sp ln T Jc Jr) : ln ≤ 400 := h_.2.1
theorem zRQ.T6 {p : Nat → Nat} {sp ln T : Nat} {Jc Jr : Nat → Nat → Int32} (h_ : zRQ p sp ln T Jc Jr) : T < 6 := h_.2.2.1
theorem zRQ.ru {p : Nat → Nat} {sp ln T : Nat} {Jc Jr : Nat → Nat → Int32} (h_ : zRQ p sp ln T Jc Jr) : ∃ g h cl k, k ≤ 12 ∧ (∀ j, j < ln → Jc sp j = g j) ∧ (∀ j, j < 400 → Jr (p 1) (400 * T + j) = h j) ∧ (∀ j, j < 48 → Jr (p 2) (48 * T + j) = cl j) ∧ (Jr (p 3) T).toInt = ((k : Nat) : Int) ∧ zRu g h cl k ln := h_.2.2.2
theorem zT {p : Nat → Nat} {sp ln T : Nat} {t : Int32} {Jc Jr : Nat → Nat → Int32} {Lc Lr : Nat → Nat → Int64} (hp : zpd p) (hr : zRQ p sp ln T Jc Jr) (ht : t.toInt = (T : Nat)) (hw : ∀ j, j < 10 → Lc (p 26) j = Lr (p 6) j) :
    ((x41 p sp ln Jc Lc).1 = Int32.ofInt 0 ∧ (x197 p t Jr Lr).1 = Int32.ofInt (-1)) ∨
    ((x41 p sp ln Jc Lc).1 = Int32.ofInt 1 ∧ 0 ≤ (x197 p t Jr Lr).1.toInt ∧ (x41 p sp ln Jc Lc).2.2 (p 25) 3 = (x198 p t (Jr (p 2) ((x197 p t Jr Lr).1.toNatClampNeg)) (Jr (p 2) (((x197 p t Jr Lr).1 + Int32.ofInt 1).toNatClampNeg)) (x197 p t Jr Lr).2.1 (x197 p t Jr Lr).2.2).1) := by
  obtain ⟨g, h, cl, k, hk, hg, hh, hcl, hck, pos, p0, pk, hc⟩ := hr.ru
  have hC : zCS p (fun j => Lr (p 6) j) (nt_u Jc (p 25) 2 (Int32.ofInt 0)) Lc Jc Lc [] := ⟨by rw [me_us]; rfl, by simp, trivial, hw, fun a ha => me_uo ha, fun j hj => me_uk hj, fun _ _ _ => rfl⟩
  have z := zT_l hp hr.sp25 hr.ln4 hk ht hr.T6 hg hh hcl hck pk hc k 0 (nt_u Jc (p 25) 2 (Int32.ofInt 0)) Jr Lc Lr (by omega) hC (fun _ _ => rfl) (fun _ _ => rfl) (fun _ _ => rfl)
  rw [p0] at z
  have e1 : x41 p sp ln Jc Lc = x41_7 p sp ln (ln - 0) (Int32.ofInt ((0 : Nat) : Int)) (nt_u Jc (p 25) 2 (Int32.ofInt 0)) Lc := by
    unfold x41
    rw [show (Int32.ofNat ln).toNatClampNeg = ln - 0 from zi_o (by have := hr.ln4; omega)]
    rfl
  have e2 : x197 p t Jr Lr = x197_2 p t k (Int32.ofInt ((0 : Nat) : Int)) Jr Lr := by
    unfold x197
    rw [z_i3 ht, z_i3 hck]
    rfl
  rw [e1, e2]
  exact z
end
section
/-! words told, a plank chosen: both sides -/
theorem zw10 {L : Nat → Nat → Int64} {a : Nat} {v0 v1 v2 v3 v4 v5 v6 v7 v8 v9 : Int64} : (nt_u (nt_u (nt_u (nt_u (nt_u (nt_u (nt_u (nt_u (nt_u (nt_u L a 0 v0) a 1 v1) a 2 v2) a 3 v3) a 4 v4) a 5 v5) a 6 v6) a 7 v7) a 8 v8) a 9 v9) a 0 = v0 ∧ (nt_u (nt_u (nt_u (nt_u (nt_u (nt_u (nt_u (nt_u (nt_u (nt_u L a 0 v0) a 1 v1) a 2 v2) a 3 v3) a 4 v4) a 5 v5) a 6 v6) a 7 v7) a 8 v8) a 9 v9) a 1 = v1 ∧ (nt_u (nt_u (nt_u (nt_u (nt_u (nt_u (nt_u (nt_u (nt_u (nt_u L a 0 v0) a 1 v1) a 2 v2) a 3 v3) a 4 v4) a 5 v5) a 6 v6) a 7 v7) a 8 v8) a 9 v9) a 2 = v2 ∧ (nt_u (nt_u (nt_u (nt_u (nt_u (nt_u (nt_u (nt_u (nt_u (nt_u L a 0 v0) a 1 v1) a 2 v2) a 3 v3) a 4 v4) a 5 v5) a 6 v6) a 7 v7) a 8 v8) a 9 v9) a 3 = v3 ∧ (nt_u (nt_u (nt_u (nt_u (nt_u (nt_u (nt_u (nt_u (nt_u (nt_u L a 0 v0) a 1 v1) a 2 v2) a 3 v3) a 4 v4) a 5 v5) a 6 v6) a 7 v7) a 8 v8) a 9 v9) a 4 = v4 ∧ (nt_u (nt_u (nt_u (nt_u (nt_u (nt_u (nt_u (nt_u (nt_u (nt_u L a 0 v0) a 1 v1) a 2 v2) a 3 v3) a 4 v4) a 5 v5) a 6 v6) a 7 v7) a 8 v8) a 9 v9) a 5 = v5 ∧ (nt_u (nt_u (nt_u (nt_u (nt_u (nt_u (nt_u (nt_u (nt_u (nt_u L a 0 v0) a 1 v1) a 2 v2) a 3 v3) a 4 v4) a 5 v5) a 6 v6) a 7 v7) a 8 v8) a 9 v9) a 6 = v6 ∧ (nt_u (nt_u (nt_u (nt_u (nt_u (nt_u (nt_u (nt_u (nt_u (nt_u L a 0 v0) a 1 v1) a 2 v2) a 3 v3) a 4 v4) a 5 v5) a 6 v6) a 7 v7) a 8 v8) a 9 v9) a 7 = v7 ∧ (nt_u (nt_u (nt_u (nt_u (nt_u (nt_u (nt_u (nt_u (nt_u (nt_u L a 0 v0) a 1 v1) a 2 v2) a 3 v3) a 4 v4) a 5 v5) a 6 v6) a 7 v7) a 8 v8) a 9 v9) a 8 = v8 ∧ (nt_u (nt_u (nt_u (nt_u (nt_u (nt_u (nt_u (nt_u (nt_u (nt_u L a 0 v0) a 1 v1) a 2 v2) a 3 v3) a 4 v4) a 5 v5) a 6 v6) a 7 v7) a 8 v8) a 9 v9) a 9 = v9 := ⟨(mu_k (by decide)).trans ((mu_k (by decide)).trans ((mu_k (by decide)).trans ((mu_k (by decide)).trans ((mu_k (by decide)).trans ((mu_k (by decide)).trans ((mu_k (by decide)).trans ((mu_k (by decide)).trans ((mu_k (by decide)).trans (mu_s))))))))), (mu_k (by decide)).trans ((mu_k (by decide)).trans ((mu_k (by decide)).trans ((mu_k (by decide)).trans ((mu_k (by decide)).trans ((mu_k (by decide)).trans ((mu_k (by decide)).trans ((mu_k (by decide)).trans (mu_s)))))))), (mu_k (by decide)).trans ((mu_k (by decide)).trans ((mu_k (by decide)).trans ((mu_k (by decide)).trans ((mu_k (by decide)).trans ((mu_k (by decide)).trans ((mu_k (by decide)).trans (mu_s))))))), (mu_k (by decide)).trans ((mu_k (by decide)).trans ((mu_k (by decide)).trans ((mu_k (by decide)).trans ((mu_k (by decide)).trans ((mu_k (by decide)).trans (mu_s)))))), (mu_k (by decide)).trans ((mu_k (by decide)).trans ((mu_k (by decide)).trans ((mu_k (by decide)).trans ((mu_k (by decide)).trans (mu_s))))), (mu_k (by decide)).trans ((mu_k (by decide)).trans ((mu_k (by decide)).trans ((mu_k (by decide)).trans (mu_s)))), (mu_k (by decide)).trans ((mu_k (by decide)).trans ((mu_k (by decide)).trans (mu_s))), (mu_k (by decide)).trans ((mu_k (by decide)).trans (mu_s)), (mu_k (by decide)).trans (mu_s), mu_s⟩
theorem zw_eq {L L' : Nat → Nat → Int64} {a b : Nat} {v0 v1 v2 v3 v4 v5 v6 v7 v8 v9 : Int64} : ∀ k, k < 10 → (nt_u (nt_u (nt_u (nt_u (nt_u (nt_u (nt_u (nt_u (nt_u (nt_u L a 0 v0) a 1 v1) a 2 v2) a 3 v3) a 4 v4) a 5 v5) a 6 v6) a 7 v7) a 8 v8) a 9 v9) a k = (nt_u (nt_u (nt_u (nt_u (nt_u (nt_u (nt_u (nt_u (nt_u (nt_u L' b 0 v0) b 1 v1) b 2 v2) b 3 v3) b 4 v4) b 5 v5) b 6 v6) b 7 v7) b 8 v8) b 9 v9) b k := by
  intro k hk
  have x := zw10 (L := L) (a := a) (v0 := v0) (v1 := v1) (v2 := v2) (v3 := v3) (v4 := v4) (v5 := v5) (v6 := v6) (v7 := v7) (v8 := v8) (v9 := v9)
  have y := zw10 (L := L') (a := b) (v0 := v0) (v1 := v1) (v2 := v2) (v3 := v3) (v4 := v4) (v5 := v5) (v6 := v6) (v7 := v7) (v8 := v8) (v9 := v9)
  obtain ⟨x0, x1, x2, x3, x4, x5, x6, x7, x8, x9⟩ := x
  obtain ⟨y0, y1, y2, y3, y4, y5, y6, y7, y8, y9⟩ := y
  rcases (by omega : k = 0 ∨ k = 1 ∨ k = 2 ∨ k = 3 ∨ k = 4 ∨ k = 5 ∨ k = 6 ∨ k = 7 ∨ k = 8 ∨ k = 9) with rfl | rfl | rfl | rfl | rfl | rfl | rfl | rfl | rfl | rfl
  · exact x0.trans y0.symm
  · exact x1.trans y1.symm
  · exact x2.trans y2.symm
  · exact x3.trans y3.symm
  · exact x4.trans y4.symm
  · exact x5.trans y5.symm
  · exact x6.trans y6.symm
  · exact x7.trans y7.symm
  · exact x8.trans y8.symm
  · exact x9.trans y9.symm
/-- the words of a plank -/
theorem zwords {q p : Nat → Nat} {Jc Jr : Nat → Nat → Int32} {Lc Lr : Nat → Nat → Int64} {i v : Int32} {b : Int} (hR : zR q Jc (Jr (p 4))) (hW : zW (Jr (p 4)) b) (h0 : 0 ≤ i.toInt) (h1 : ¬ Jr (p 4) 2 ≤ i) (v0 : 0 ≤ v.toInt) (v1 : ¬ Jr (p 4) 3 ≤ v) : ∀ k, k < 10 → x8 p q i v Jc Lc (p 26) k = x196 p i (Jc (q 6) v.toNatClampNeg) v Jr Lr (p 6) k := by
  obtain ⟨hn, hi, c0, c1, c2, c3, c4, r0, r1, r2, r3, r4⟩ := zP hR hW.w h0 h1
  obtain ⟨vn, vi, d0, d1, d2, d3, d4, s0, s1, s2, s3, s4⟩ := zV hR hW.w v0 v1
  have hin := hW.b.inn _ hn
  unfold x8 x196 x89
  rw [c0, c1, c2, c3, d0, d1, d2, r0, r1, r2, r3, s1, s2, zR_4 hR, zR_6 hR]
  by_cases n : Jr (p 4) (52 + 5 * i.toNatClampNeg + 3) = Int32.ofInt (-1)
  · have m : ¬ 0 ≤ Jr (p 4) (52 + 5 * i.toNatClampNeg + 3) := by
      rw [n]
      decide
    rw [if_pos n, if_neg m]
    by_cases o : Jr (p 4) (52 + 5 * i.toNatClampNeg + 2) = Jr (p 4) (172 + 5 * v.toNatClampNeg + 0)
    · rw [if_pos o, if_pos o]
      exact zw_eq
    · rw [if_neg o, if_neg o]
      exact zw_eq
  · have m : 0 ≤ Jr (p 4) (52 + 5 * i.toNatClampNeg + 3) := by
      apply z_ge.mpr
      have : (Jr (p 4) (52 + 5 * i.toNatClampNeg + 3)).toInt ≠ -1 := fun c => n (Int32.toInt_inj.mp (by rw [c, xi_m1]))
      rw [show (0 : Int32).toInt = 0 from by decide]
      omega
    rw [if_neg n, if_pos m]
    by_cases o : Jr (p 4) (52 + 5 * i.toNatClampNeg + 2) = Jr (p 4) (172 + 5 * v.toNatClampNeg + 0)
    · rw [if_pos o, if_pos o]
      exact zw_eq
    · rw [if_neg o, if_neg o]
      exact zw_eq
theorem zR_ag {q : Nat → Nat} {J J' : Nat → Nat → Int32} {e : Nat → Int32} (h : zR q J e) (ha : ∀ i, i < 17 → J' (q i) = J (q i)) : zR q J' e := by
  refine ⟨fun j hj => ?_, ?_⟩
  · rw [ha _ (zc_17 j (zv_lt hj))]
    exact h.1 j hj
  · rw [ha 0 (by omega)]
    exact h.2
theorem zRQ_ag {p : Nat → Nat} {sp ln T : Nat} {Jc Jr Jc' Jr' : Nat → Nat → Int32} (h : zRQ p sp ln T Jc Jr) (hc : Jc' sp = Jc sp) (h1 : Jr' (p 1) = Jr (p 1)) (h2 : Jr' (p 2) = Jr (p 2)) (h3 : Jr' (p 3) = Jr (p 3)) : zRQ p sp ln T Jc' Jr' := by
  obtain ⟨g, hh, cl, k, a, b, c, d, e, f⟩ := h.ru
  exact ⟨h.sp25, h.ln4, h.T6, g, hh, cl, k, a, fun j hj => by rw [hc]; exact b j hj, fun j hj => by rw [h1]; exact c j hj, fun j hj => by rw [h2]; exact d j hj, by rw [h3]; exact e, f⟩
/-- the places lie apart -/
def zX (p q : Nat → Nat) : Prop := (zpd p) ∧ (zq q) ∧ (∀ i j, i < 17 → j < 31 → q i ≠ p j)
theorem zX.hp {p q : Nat → Nat} (h_ : zX p q) : zpd p := h_.1
theorem zX.hq {p q : Nat → Nat} (h_ : zX p q) : zq q := h_.2.1
theorem zX.hx {p q : Nat → Nat} (h_ : zX p q) : ∀ i j, i < 17 → j < 31 → q i ≠ p j := h_.2.2
/-- the plank chosen is the plank taken -/
theorem zch_l {p q : Nat → Nat} {sp ln T : Nat} {t v k : Int32} {b : Int} {Jc0 Jr0 : Nat → Nat → Int32} (X : zX p q) (hR : zR q Jc0 (Jr0 (p 4))) (hW : zW (Jr0 (p 4)) b) (hQ : zRQ p sp ln T Jc0 Jr0) (ht : t.toInt = (T : Nat)) (v0 : 0 ≤ v.toInt) (v1 : ¬ Jr0 (p 4) 3 ≤ v) :
    ∀ (c : Nat) (be : Int32) (le : Int64) (i : Int32) (Jc Jr : Nat → Nat → Int32) (Lc Lr : Nat → Nat → Int64), 0 ≤ i.toInt → (be = Int32.ofInt (-1) ∨ (0 ≤ be.toInt ∧ ¬ Jr0 (p 4) 2 ≤ be ∧ ¬ x194 p be (Jr0 (p 4) (172 + 5 * v.toNatClampNeg + 0)) k Jr0 = 0)) → (∀ a, a ≠ p 25 → Jc a = Jc0 a) → (∀ a, a ≠ p 0 → Jr a = Jr0 a) →
    (x6_9 p q sp ln v k c be le i Jc Lc).1 = (x193_9 p t (Jr0 (p 4) (172 + 5 * v.toNatClampNeg + 0)) k v c be le i Jr Lr).1 ∧ ((x6_9 p q sp ln v k c be le i Jc Lc).1 = Int32.ofInt (-1) ∨ (0 ≤ (x6_9 p q sp ln v k c be le i Jc Lc).1.toInt ∧ ¬ Jr0 (p 4) 2 ≤ (x6_9 p q sp ln v k c be le i Jc Lc).1 ∧ ¬ x194 p (x6_9 p q sp ln v k c be le i Jc Lc).1 (Jr0 (p 4) (172 + 5 * v.toNatClampNeg + 0)) k Jr0 = 0)) := by
  have n4 : p 4 ≠ p 0 := X.hp 4 0 (by omega) (by omega) (by omega)
  intro c
  induction c with
  | zero =>
    intro be le i Jc Jr Lc Lr h0 hb hc hr
    exact ⟨rfl, hb⟩
  | succ c ih =>
    intro be le i Jc Jr Lc Lr h0 hb hc hr
    have e4 : Jr (p 4) = Jr0 (p 4) := hr _ n4
    have hRc : zR q Jc (Jr (p 4)) := by
      rw [e4]
      exact zR_ag hR (fun i hi => hc _ (X.hx i 25 hi (by omega)))
    have hWr : zW (Jr (p 4)) b := by rw [e4]; exact hW
    have hQr : zRQ p sp ln T Jc Jr := zRQ_ag hQ (hc _ hQ.sp25) (hr _ (X.hp 1 0 (by omega) (by omega) (by omega))) (hr _ (X.hp 2 0 (by omega) (by omega) (by omega))) (hr _ (X.hp 3 0 (by omega) (by omega) (by omega)))
    rw [x6_9, x193_9, zR_n hRc (by omega)]
    by_cases h1 : Jr (p 4) 2 ≤ i
    · rw [if_pos h1, if_pos h1]
      exact ⟨rfl, hb⟩
    · rw [if_neg h1, if_neg h1]
      have d0 : Jc (q 6) v.toNatClampNeg = Jr0 (p 4) (172 + 5 * v.toNatClampNeg + 0) := by
        rw [(zV hRc hWr.w v0 (by rw [e4]; exact v1)).2.2.1, e4]
      have z7 := zq_7 (s := Jr0 (p 4) (172 + 5 * v.toNatClampNeg + 0)) (k := k) hRc hWr h0 h1
      have wd := zwords (Lc := Lc) (Lr := Lr) hRc hWr h0 h1 v0 (by rw [e4]; exact v1)
      rw [d0] at wd
      have tt := zT X.hp hQr ht wd
      have fc : ∀ a, a ≠ p 25 → (x41 p sp ln Jc (x8 p q i v Jc Lc)).2.1 a = Jc0 a := fun a ha => (x41_frJ ha).trans (hc a ha)
      have fr : ∀ a, a ≠ p 0 → (x197 p t Jr (x196 p i (Jr0 (p 4) (172 + 5 * v.toNatClampNeg + 0)) v Jr Lr)).2.1 a = Jr0 a := fun a ha => (x197_frJ ha).trans (hr a ha)
      have x0 : x194 p i (Jr0 (p 4) (172 + 5 * v.toNatClampNeg + 0)) k Jr = x194 p i (Jr0 (p 4) (172 + 5 * v.toNatClampNeg + 0)) k Jr0 := by
        have x173e : ∀ a c, x173 p a c Jr = x173 p a c Jr0 := fun a c => by unfold x173; rw [e4]
        have x169e : ∀ a c, x169 p a c Jr = x169 p a c Jr0 := fun a c => by unfold x169; rw [e4]
        have x180e : ∀ a c, x180 p a c Jr = x180 p a c Jr0 := fun a c => by unfold x180; rw [e4]
        have l195 : ∀ (c : Nat) (s i : Int32), x195_2 p s Jr c i = x195_2 p s Jr0 c i := by
          intro c
          induction c with
          | zero => intro s i; rfl
          | succ c ih =>
            intro s i
            rw [x195_2, x195_2, ih, x180e, x180e, e4]
        have x195e : ∀ a, x195 p a Jr = x195 p a Jr0 := fun a => by unfold x195; rw [l195, e4]
        have x182e : ∀ a, x182 p a Jr = x182 p a Jr0 := fun a => by unfold x182; rw [x169e]
        have x183e : ∀ a, x183 p a Jr = x183 p a Jr0 := fun a => by
          unfold x183 x172
          rw [x173e, x173e, x173e, x182e]
        unfold x194
        rw [x183e, x173e, x173e, x195e]
      have nx := zi_i h1 h0
      rw [d0]
      by_cases h2 : Jc (q 3) i.toNatClampNeg = k
      · rw [if_pos h2] at z7 ⊢
        rw [z7]
        by_cases h3 : x194 p i (Jr0 (p 4) (172 + 5 * v.toNatClampNeg + 0)) k Jr = 0
        · rw [if_pos h3, if_pos h3]
          exact ih _ _ _ _ _ _ _ nx hb hc hr
        · rw [if_neg h3, if_neg h3]
          have bi : (i = Int32.ofInt (-1) ∨ (0 ≤ i.toInt ∧ ¬ Jr0 (p 4) 2 ≤ i ∧ ¬ x194 p i (Jr0 (p 4) (172 + 5 * v.toNatClampNeg + 0)) k Jr0 = 0)) := Or.inr ⟨h0, by rw [← e4]; exact h1, by rw [← x0]; exact h3⟩
          rcases tt with ⟨ta, tb⟩ | ⟨ta, tb, tc⟩
          · rw [if_pos (show (x41 p sp ln Jc (x8 p q i v Jc Lc)).1 = 0 from ta), if_neg (show ¬ 0 ≤ (x197 p t Jr (x196 p i (Jr0 (p 4) (172 + 5 * v.toNatClampNeg + 0)) v Jr Lr)).1 from by rw [tb]; decide)]
            exact ih _ _ _ _ _ _ _ nx hb fc fr
          · have fr2 : ∀ x y a, a ≠ p 0 → (x198 p t x y (x197 p t Jr (x196 p i (Jr0 (p 4) (172 + 5 * v.toNatClampNeg + 0)) v Jr Lr)).2.1 (x197 p t Jr (x196 p i (Jr0 (p 4) (172 + 5 * v.toNatClampNeg + 0)) v Jr Lr)).2.2).2.1 a = Jr0 a := fun x y a ha => (x198_frJ ha).trans (fr a ha)
            rw [if_neg (show ¬ (x41 p sp ln Jc (x8 p q i v Jc Lc)).1 = 0 from by rw [ta]; decide), if_pos (show 0 ≤ (x197 p t Jr (x196 p i (Jr0 (p 4) (172 + 5 * v.toNatClampNeg + 0)) v Jr Lr)).1 from z_ge.mpr tb)]
            rw [show x45 p (x41 p sp ln Jc (x8 p q i v Jc Lc)).2.1 (x41 p sp ln Jc (x8 p q i v Jc Lc)).2.2 = _ from tc]
            rcases hb with e | ⟨b1, b2, b3⟩
            · rw [if_pos e, if_pos (show be < 0 from by rw [e]; decide)]
              exact ih _ _ _ _ _ _ _ nx bi fc (fr2 _ _)
            · have ne : ¬ be = Int32.ofInt (-1) := fun e => by
                rw [e, xi_m1] at b1
                omega
              rw [if_neg ne, if_neg (show ¬ be < 0 from fun c => by have := z_le0.mp c; omega)]
              generalize (x198 p t (Jr (p 2) ((x197 p t Jr (x196 p i (Jr0 (p 4) (172 + 5 * v.toNatClampNeg + 0)) v Jr Lr)).1.toNatClampNeg)) (Jr (p 2) (((x197 p t Jr (x196 p i (Jr0 (p 4) (172 + 5 * v.toNatClampNeg + 0)) v Jr Lr)).1 + Int32.ofInt 1).toNatClampNeg)) (x197 p t Jr (x196 p i (Jr0 (p 4) (172 + 5 * v.toNatClampNeg + 0)) v Jr Lr)).2.1 (x197 p t Jr (x196 p i (Jr0 (p 4) (172 + 5 * v.toNatClampNeg + 0)) v Jr Lr)).2.2).1 = sm
              by_cases h5 : lg_cmp sm le < 0
              · rw [if_pos h5, if_neg (show ¬ 0 ≤ lg_cmp sm le from fun c => by
                  have c := z_ge.mp c
                  have h5 := z_le0.mp h5
                  rw [show (0 : Int32).toInt = 0 from by decide] at c
                  omega)]
                exact ih _ _ _ _ _ _ _ nx bi fc (fr2 _ _)
              · rw [if_neg h5, if_pos (show 0 ≤ lg_cmp sm le from z_ge.mpr (by
                  have h5 : ¬ (lg_cmp sm le).toInt < 0 := fun c => h5 (z_le0.mpr c)
                  rw [show (0 : Int32).toInt = 0 from by decide]
                  omega))]
                exact ih _ _ _ _ _ _ _ nx (Or.inr ⟨b1, b2, b3⟩) fc (fr2 _ _)
      · rw [if_neg h2] at z7 ⊢
        rw [if_pos (show x194 p i (Jr0 (p 4) (172 + 5 * v.toNatClampNeg + 0)) k Jr = 0 from z7.symm)]
        exact ih _ _ _ _ _ _ _ nx hb hc hr
theorem zch {p q : Nat → Nat} {sp ln T : Nat} {t v k : Int32} {b : Int} {Jc Jr : Nat → Nat → Int32} {Lc Lr : Nat → Nat → Int64} (X : zX p q) (hR : zR q Jc (Jr (p 4))) (hW : zW (Jr (p 4)) b) (hQ : zRQ p sp ln T Jc Jr) (ht : t.toInt = (T : Nat)) (v0 : 0 ≤ v.toInt) (v1 : ¬ Jr (p 4) 3 ≤ v) :
    (x6 p q sp ln v k Jc Lc).1 = (x193 p t (Jr (p 4) (172 + 5 * v.toNatClampNeg + 0)) k v Jr Lr).1 ∧ ((x6 p q sp ln v k Jc Lc).1 = Int32.ofInt (-1) ∨ (0 ≤ (x6 p q sp ln v k Jc Lc).1.toInt ∧ ¬ Jr (p 4) 2 ≤ (x6 p q sp ln v k Jc Lc).1 ∧ ¬ x194 p (x6 p q sp ln v k Jc Lc).1 (Jr (p 4) (172 + 5 * v.toNatClampNeg + 0)) k Jr = 0)) := by
  unfold x6 x193
  rw [zR_n hR (by omega)]
  exact zch_l X hR hW hQ ht v0 v1 _ _ _ _ _ _ _ _ (by decide) (Or.inl rfl) (fun _ _ => rfl) (fun _ _ => rfl)
end
section
/-! a ship fitted out: both sides -/
def zkn (e : Nat → Int32) (s k : Int32) : Nat → Nat
  | 0 => 0
  | n + 1 => zkn e s k n + (if e (52 + 5 * n + 3) = s ∧ ¬ e (52 + 5 * n + 1) ≤ 0 ∧ e (52 + 5 * n + 0) = k then 1 else 0)
theorem zkn_le {e : Nat → Int32} {s k : Int32} : ∀ n, zkn e s k n ≤ n := by
  intro n
  induction n with
  | zero => exact Nat.le_refl _
  | succ n ih =>
    rw [zkn]
    split <;> omega
theorem zkn_mv {e f : Nat → Int32} {s k : Int32} {m : Nat} (h3 : e (52 + 5 * m + 3) ≠ s) (f3 : f (52 + 5 * m + 3) = s) (h1 : ¬ e (52 + 5 * m + 1) ≤ 0) (h0 : e (52 + 5 * m + 0) = k) (fo : ∀ j, 10 ≤ j → j ≠ 52 + 5 * m + 3 → f j = e j) : ∀ n, zkn f s k n = zkn e s k n + (if m < n then 1 else 0) := by
  intro n
  induction n with
  | zero => rw [if_neg (by omega)]; rfl
  | succ n ih =>
    rw [zkn, zkn, ih]
    by_cases c : n = m
    · subst c
      rw [if_neg (show ¬ n < n from by omega), if_pos (show n < n + 1 from by omega), f3, fo (52 + 5 * n + 1) (by omega) (by omega), fo (52 + 5 * n + 0) (by omega) (by omega), if_pos (show s = s ∧ ¬ e (52 + 5 * n + 1) ≤ 0 ∧ e (52 + 5 * n + 0) = k from ⟨rfl, h1, h0⟩), if_neg (fun z => h3 z.1)]
    · rw [fo (52 + 5 * n + 3) (by omega) (by omega), fo (52 + 5 * n + 1) (by omega) (by omega), fo (52 + 5 * n + 0) (by omega) (by omega)]
      by_cases d : m < n
      · rw [if_pos d, if_pos (show m < n + 1 from by omega)]
        omega
      · rw [if_neg d, if_neg (show ¬ m < n + 1 from by omega)]
        omega
theorem z_mi {x : Int32} : (if 0 ≤ x then x else Int32.ofInt 0).toInt = max 0 x.toInt := by
  by_cases h : 0 ≤ x
  · rw [if_pos h]
    have := z_ge.mp h
    rw [show (0 : Int32).toInt = 0 from by decide] at this
    omega
  · rw [if_neg h, show (Int32.ofInt 0).toInt = 0 from by decide]
    have : ¬ (0 : Int32).toInt ≤ x.toInt := fun c => h (z_ge.mpr c)
    rw [show (0 : Int32).toInt = 0 from by decide] at this
    omega
theorem zkn_175l {p : Nat → Nat} {J : Nat → Nat → Int32} {s k : Int32} {m0 : Int} (hW : xr_W (J (p 4))) (hl : zl (J (p 4)) s) (hm : 0 ≤ m0 ∧ m0 ≤ 100) : ∀ (c : Nat) (a i : Int32), 0 ≤ i.toInt → i.toInt ≤ (J (p 4) 2).toInt → (J (p 4) 2).toInt - i.toInt ≤ c → a.toInt = m0 - zkn (J (p 4)) s k i.toNatClampNeg → (x175_10 p s k J c a i).toInt = max 0 (m0 - zkn (J (p 4)) s k (zn (J (p 4)) 2)) := by
  have bb := zn_b hW
  intro c
  induction c with
  | zero =>
    intro a i h h2 hc ha
    rw [x175_10, z_mi, ha, show i.toNatClampNeg = zn (J (p 4)) 2 from by rw [zn_t]; omega]
  | succ c ih =>
    intro a i h h2 hc ha
    rw [x175_10]
    by_cases h1 : J (p 4) 2 ≤ i
    · rw [if_pos h1, z_mi, ha, show i.toNatClampNeg = zn (J (p 4)) 2 from by rw [zn_t]; have := z_ge.mp h1; omega]
    · rw [if_neg h1]
      have x := zx bb.2.2.2.2.2.2.1 h h1
      have le := zkn_le (e := J (p 4)) (s := s) (k := k) i.toNatClampNeg
      have st := fun a => ih a (i + Int32.ofInt 1) (zi_i h1 h) (by rw [lx_inc h1]; have := z_lt h1; omega) (lx_dec h1 hc)
      rw [zx_i h1 h, zkn] at st
      have r0 : x173 p i (Int32.ofInt 0) J = _ := zx_p (k := 0) h (by omega) (by omega)
      have r1 : x173 p i (Int32.ofInt 1) J = _ := zx_p (k := 1) h (by omega) (by omega)
      have r3 : x173 p i (Int32.ofInt 3) J = _ := zx_p (k := 3) h (by omega) (by omega)
      have r4 : x173 p i (Int32.ofInt 4) J = _ := zx_p (k := 4) h (by omega) (by omega)
      rw [z_in r1 r3 r4 (hl _ x.1), r0]
      have s1 : (a - Int32.ofInt 1).toInt = a.toInt - 1 := by
        rw [Int32.toInt_sub, show (Int32.ofInt 1).toInt = 1 from by decide, Int.bmod_eq_of_le (by omega) (by omega)]
      by_cases h3 : J (p 4) (52 + 5 * i.toNatClampNeg + 3) = s
      · rw [if_pos h3]
        by_cases h4 : J (p 4) (52 + 5 * i.toNatClampNeg + 1) ≤ 0
        · rw [if_pos h4, if_pos rfl, z_sub0]
          exact st a (by rw [ha, if_neg (fun z => z.2.1 h4)]; omega)
        · rw [if_neg h4, if_neg (show ¬ (1 : Int32) = 0 from by decide)]
          by_cases h5 : J (p 4) (52 + 5 * i.toNatClampNeg + 0) = k
          · rw [if_pos h5]
            exact st _ (by rw [s1, ha, if_pos ⟨h3, h4, h5⟩]; omega)
          · rw [if_neg h5, z_sub0]
            exact st a (by rw [ha, if_neg (fun z => h5 z.2.2)]; omega)
      · rw [if_neg h3, if_pos rfl, z_sub0]
        exact st a (by rw [ha, if_neg (fun z => h3 z.1)]; omega)
theorem zkn_175 {p : Nat → Nat} {J : Nat → Nat → Int32} {s k : Int32} (hW : xr_W (J (p 4))) (ha : zA (J (p 4))) (hl : zl (J (p 4)) s) (hs : 0 ≤ s.toInt ∧ s.toInt < (J (p 4) 1).toInt) (hk : 0 ≤ k.toInt ∧ k.toInt < (J (p 4) 0).toInt) : (x175 p s k J).toInt = max 0 ((J (p 4) (10 + 7 * s.toNatClampNeg + k.toNatClampNeg)).toInt - zkn (J (p 4)) s k (zn (J (p 4)) 2)) := by
  have bb := zn_b hW
  have ts := z_tn hs.1
  have tk := z_tn hk.1
  have ek : k = Int32.ofInt (k.toNatClampNeg : Int) := (z_oi hk.1 (by omega)).symm
  have em : x169 p s k J = J (p 4) (10 + 7 * s.toNatClampNeg + k.toNatClampNeg) := by
    have t := zx_s (p := p) (J := J) (i := s) (k := k.toNatClampNeg) hs.1 (by omega) (by omega)
    rw [← ek] at t
    exact t
  have mu := ha.mu s.toNatClampNeg (by omega) k.toNatClampNeg (by omega)
  unfold x175
  rw [em]
  exact zkn_175l hW hl ⟨mu.1, by omega⟩ _ _ _ (by decide) (by rw [show (Int32.ofInt 0).toInt = 0 from by decide]; omega) (lx_beg (by decide)) (by rw [show (Int32.ofInt 0).toNatClampNeg = 0 from rfl, zkn]; omega)
/-- a plank that can be taken is sound, not lost, not there yet, of the kind -/
theorem z_194 {p : Nat → Nat} {J : Nat → Nat → Int32} {i s k : Int32} (h0 : 0 ≤ i.toInt) (h1 : i.toInt ≤ 1000) (h : ¬ x194 p i s k J = 0) : J (p 4) (52 + 5 * i.toNatClampNeg + 0) = k ∧ ¬ J (p 4) (52 + 5 * i.toNatClampNeg + 1) ≤ 0 ∧ J (p 4) (52 + 5 * i.toNatClampNeg + 3) ≠ s ∧ J (p 4) (52 + 5 * i.toNatClampNeg + 4) = 0 := by
  have r0 : x173 p i (Int32.ofInt 0) J = _ := zx_p (k := 0) h0 h1 (by omega)
  have r1 : x173 p i (Int32.ofInt 1) J = _ := zx_p (k := 1) h0 h1 (by omega)
  have r3 : x173 p i (Int32.ofInt 3) J = _ := zx_p (k := 3) h0 h1 (by omega)
  have r4 : x173 p i (Int32.ofInt 4) J = _ := zx_p (k := 4) h0 h1 (by omega)
  unfold x194 at h
  by_cases a : x183 p i J = 0
  · rw [if_pos a] at h
    exact absurd rfl h
  · rw [if_neg a, r0] at h
    by_cases c : J (p 4) (52 + 5 * i.toNatClampNeg + 0) = k
    · rw [if_pos c, r3] at h
      by_cases d : J (p 4) (52 + 5 * i.toNatClampNeg + 3) = s
      · rw [if_pos d] at h
        exact absurd rfl h
      · unfold x183 x172 at a
        rw [r1, r4] at a
        by_cases e : J (p 4) (52 + 5 * i.toNatClampNeg + 1) ≤ 0
        · rw [if_pos e, if_pos (show Int32.ofInt 0 = 0 from rfl)] at a
          exact absurd rfl a
        · rw [if_neg e] at a
          by_cases g : J (p 4) (52 + 5 * i.toNatClampNeg + 4) = 0
          · exact ⟨c, e, d, g⟩
          · rw [if_neg g, if_pos (show Int32.ofInt 0 = 0 from rfl)] at a
            exact absurd rfl a
    · rw [if_neg c] at h
      exact absurd rfl h
/-- what a stretch of fitting out keeps on both sides -/
def zKp (p q : Nat → Nat) (sp : Nat) (Jc Jr Jc' Jr' : Nat → Nat → Int32) : Prop := (∀ a, a ≠ p 25 → (∀ i, i < 17 → a ≠ q i) → Jc' a = Jc a) ∧ (∀ a, a ≠ p 0 → a ≠ p 4 → Jr' a = Jr a)
theorem zKp.c {p q : Nat → Nat} {sp : Nat} {Jc Jr Jc' Jr' : Nat → Nat → Int32} (h_ : zKp p q sp Jc Jr Jc' Jr') : ∀ a, a ≠ p 25 → (∀ i, i < 17 → a ≠ q i) → Jc' a = Jc a := h_.1
theorem zKp.r {p q : Nat → Nat} {sp : Nat} {Jc Jr Jc' Jr' : Nat → Nat → Int32} (h_ : zKp p q sp Jc Jr Jc' Jr') : ∀ a, a ≠ p 0 → a ≠ p 4 → Jr' a = Jr a := h_.2
theorem zKp_r {p q : Nat → Nat} {sp : Nat} {Jc Jr : Nat → Nat → Int32} : zKp p q sp Jc Jr Jc Jr := ⟨fun _ _ _ => rfl, fun _ _ _ => rfl⟩
theorem zKp_t {p q : Nat → Nat} {sp : Nat} {Jc Jr Jc' Jr' Jc2 Jr2 : Nat → Nat → Int32} (h : zKp p q sp Jc Jr Jc' Jr') (g : zKp p q sp Jc' Jr' Jc2 Jr2) : zKp p q sp Jc Jr Jc2 Jr2 := ⟨fun a h1 h2 => (g.c a h1 h2).trans (h.c a h1 h2), fun a h1 h2 => (g.r a h1 h2).trans (h.r a h1 h2)⟩
theorem zKp_Q {p q : Nat → Nat} {sp ln T : Nat} {Jc Jr Jc' Jr' : Nat → Nat → Int32} (X : zX p q) (hs : ∀ i, i < 17 → sp ≠ q i) (h : zKp p q sp Jc Jr Jc' Jr') (hQ : zRQ p sp ln T Jc Jr) : zRQ p sp ln T Jc' Jr' :=
  zRQ_ag hQ (h.c sp hQ.sp25 hs) (h.r _ (X.hp 1 0 (by omega) (by omega) (by omega)) (X.hp 1 4 (by omega) (by omega) (by omega))) (h.r _ (X.hp 2 0 (by omega) (by omega) (by omega)) (X.hp 2 4 (by omega) (by omega) (by omega))) (h.r _ (X.hp 3 0 (by omega) (by omega) (by omega)) (X.hp 3 4 (by omega) (by omega) (by omega)))
theorem zfill_l {p q : Nat → Nat} {sp ln T : Nat} {t v s k wn : Int32} {b : Int} (X : zX p q) (hsq : ∀ i, i < 17 → sp ≠ q i) (ht : t.toInt = (T : Nat)) (v0 : 0 ≤ v.toInt) :
    ∀ (c c' : Nat) (i : Int32) (Jc Jr : Nat → Nat → Int32) (Lc Lr : Nat → Nat → Int64), zR q Jc (Jr (p 4)) → zW (Jr (p 4)) b → zRQ p sp ln T Jc Jr → ¬ Jr (p 4) 3 ≤ v → Jr (p 4) (172 + 5 * v.toNatClampNeg + 0) = s → (0 ≤ s.toInt ∧ s.toInt < (Jr (p 4) 1).toInt) → Jr (p 4) (10 + 7 * s.toNatClampNeg + 4) = 0 → (0 ≤ k.toInt ∧ k.toInt < (Jr (p 4) 0).toInt) → wn.toInt - i.toInt = (c : Nat) → 0 ≤ i.toInt → (c : Int) = min (x175 p s k Jr).toInt ((Jr (p 4) 5).toInt - (Jr (p 4) 6).toInt) → (Jr (p 4) 5).toInt - (Jr (p 4) 6).toInt ≤ c' →
    zR q (x5_31 p q sp ln v k s wn c i Jc Lc).1 ((x192_18 p t s v k c' Jr Lr).1 (p 4)) ∧ zW ((x192_18 p t s v k c' Jr Lr).1 (p 4)) b ∧ zKp p q sp Jc Jr (x5_31 p q sp ln v k s wn c i Jc Lc).1 (x192_18 p t s v k c' Jr Lr).1 ∧ (∀ j, j < 6 → (x192_18 p t s v k c' Jr Lr).1 (p 4) j = Jr (p 4) j) ∧ (x192_18 p t s v k c' Jr Lr).1 (p 4) (10 + 7 * s.toNatClampNeg + 4) = 0 ∧ (∀ j, 172 ≤ j → (x192_18 p t s v k c' Jr Lr).1 (p 4) j = Jr (p 4) j) := by
  have n4 : p 4 ≠ p 0 := X.hp 4 0 (by omega) (by omega) (by omega)
  intro c
  induction c with
  | zero =>
    intro c' i Jc Jr Lc Lr hR hW hQ v1 es hs h0 hk hi hi0 hmin hc'
    have stop : ∀ (a b : (Nat → Nat → Int32) × (Nat → Nat → Int64)), (if x175 p s k Jr ≤ 0 then (Jr, Lr) else if x184 p Jr = 0 then (Jr, Lr) else if 0 ≤ (x193 p t s k v Jr Lr).1 then a else b) = (Jr, Lr) := by
      intro a b
      by_cases l0 : x175 p s k Jr ≤ 0
      · rw [if_pos l0]
      · rw [if_neg l0, if_pos]
        unfold x184
        rw [if_pos]
        · rfl
        · apply z_ge.mpr
          have : ¬ (x175 p s k Jr).toInt ≤ 0 := fun c => l0 (z_ge.mpr c)
          omega
    have e : x192_18 p t s v k c' Jr Lr = (Jr, Lr) := by
      cases c' with
      | zero => rw [x192_18]; exact stop _ _
      | succ c' => rw [x192_18]; exact stop _ _
    rw [e, x5_31]
    exact ⟨hR, hW, zKp_r, fun _ _ => rfl, h0, fun _ _ => rfl⟩
  | succ c ih =>
    intro c' i Jc Jr Lc Lr hR hW hQ v1 es hs h0 hk hi hi0 hmin hc'
    have bb := zn_b hW.w
    have nw : ¬ wn ≤ i := fun c => by have := z_ge.mp c; omega
    have nl : ¬ x175 p s k Jr ≤ 0 := fun c => by
      have c := z_ge.mp c
      rw [show (0 : Int32).toInt = 0 from by decide] at c
      omega
    have h6 : (Jr (p 4) 6).toInt < (Jr (p 4) 5).toInt := by omega
    have nh : ¬ x184 p Jr = 0 := by
      unfold x184
      rw [if_neg (fun c => by have := z_ge.mp c; omega)]
      decide
    obtain ⟨d, hd⟩ : ∃ d, c' = d + 1 := ⟨c' - 1, by omega⟩
    subst hd
    have ch := zch (Lc := Lc) (Lr := Lr) (k := k) X hR hW hQ ht v0 v1
    rw [es] at ch
    have fc : ∀ a, a ≠ p 25 → (x6 p q sp ln v k Jc Lc).2.1 a = Jc a := fun a ha => x6_frJ ha
    have fr : ∀ a, a ≠ p 0 → (x193 p t s k v Jr Lr).2.1 a = Jr a := fun a ha => x193_frJ ha
    have er4 : (x193 p t s k v Jr Lr).2.1 (p 4) = Jr (p 4) := fr _ n4
    have hR2 : zR q (x6 p q sp ln v k Jc Lc).2.1 ((x193 p t s k v Jr Lr).2.1 (p 4)) := by
      rw [er4]
      exact zR_ag hR (fun i hi => fc _ (X.hx i 25 hi (by omega)))
    have kp2 : zKp p q sp Jc Jr (x6 p q sp ln v k Jc Lc).2.1 (x193 p t s k v Jr Lr).2.1 := ⟨fun a h1 _ => fc a h1, fun a h1 _ => fr a h1⟩
    rw [x5_31, x192_18, if_neg nw, if_neg nl, if_neg nh]
    rcases ch.2 with en | ⟨b1, b2, b3⟩
    · rw [if_pos en, if_neg (show ¬ 0 ≤ (x193 p t s k v Jr Lr).1 from by rw [← ch.1, en]; decide)]
      refine ⟨hR2, ?_, kp2, ?_, ?_, ?_⟩
      · show zW ((x193 p t s k v Jr Lr).2.1 (p 4)) b
        rw [er4]
        exact hW
      · intro j hj
        exact congrFun er4 j
      · exact (congrFun er4 _).trans h0
      · intro j hj
        exact congrFun er4 j
    · have ne : ¬ (x6 p q sp ln v k Jc Lc).1 = Int32.ofInt (-1) := fun e => by
        rw [e, xi_m1] at b1
        omega
      rw [if_neg ne, if_pos (show 0 ≤ (x193 p t s k v Jr Lr).1 from by rw [← ch.1]; exact z_ge.mpr b1), ← ch.1]
      have xp := zx bb.2.2.2.2.2.2.1 b1 b2
      have sd := z_194 b1 (by omega) b3
      have pt := zput (i := (x6 p q sp ln v k Jc Lc).1) (s := s) (b := b) (Jr := (x193 p t s k v Jr Lr).2.1) X.hq hR2 (by rw [er4]; exact hW) b1 (by rw [er4]; exact b2) ⟨by omega, by rw [er4]; exact hs.2⟩ (fun _ c => by rw [er4, h0] at c; exact absurd c (by decide)) (by rw [er4]; exact sd.2.2.2) (by rw [er4]; exact h6)
      have rw6 : (x185 p (x6 p q sp ln v k Jc Lc).1 s (x193 p t s k v Jr Lr).2.1) (p 4) = zu (zu (zu (Jr (p 4)) (52 + 5 * (x6 p q sp ln v k Jc Lc).1.toNatClampNeg + 3) s) 6 (Jr (p 4) 6 + Int32.ofInt 1)) 8 (Jr (p 4) 8 + Int32.ofInt 1) := by
        unfold x185
        rw [zx_p3 b1 (by omega), zu_r, zu_r, zu_r, er4, zu_k (by omega), zu_k (by omega)]
      have e6 : (Jr (p 4) 6 + Int32.ofInt 1).toInt = (Jr (p 4) 6).toInt + 1 := lx_inc (b := Jr (p 4) 5) (fun c => by have := z_ge.mp c; omega)
      have un : ∀ j, j ≠ 52 + 5 * (x6 p q sp ln v k Jc Lc).1.toNatClampNeg + 3 → j ≠ 6 → j ≠ 8 → (x185 p (x6 p q sp ln v k Jc Lc).1 s (x193 p t s k v Jr Lr).2.1) (p 4) j = Jr (p 4) j := by
        intro j a b c
        rw [rw6, zu_k c, zu_k b, zu_k a]
      have kp3 : zKp p q sp Jc Jr (x74 q (x6 p q sp ln v k Jc Lc).1 s (x6 p q sp ln v k Jc Lc).2.1) (x185 p (x6 p q sp ln v k Jc Lc).1 s (x193 p t s k v Jr Lr).2.1) := zKp_t kp2 ⟨fun a _ h2 => x74_frJ (h2 0 (by omega)) (h2 14 (by omega)), fun a _ h2 => x185_frJ h2⟩
      have ts := z_tn hs.1
      have tk := z_tn hk.1
      have l24 : (x6 p q sp ln v k Jc Lc).1.toNatClampNeg < 24 := by omega
      have v175 := zkn_175 (k := k) hW.w hW.a (zl_of hW (fun _ c => by rw [h0] at c; exact absurd c (by decide))) hs hk
      have z175 := zkn_175 (J := x185 p (x6 p q sp ln v k Jc Lc).1 s (x193 p t s k v Jr Lr).2.1) (s := s) (k := k) pt.2.w pt.2.a (zl_of pt.2 (fun _ c => by rw [un _ (by omega) (by omega) (by omega), h0] at c; exact absurd c (by decide))) ⟨hs.1, by rw [un 1 (by omega) (by omega) (by omega)]; exact hs.2⟩ ⟨hk.1, by rw [un 0 (by omega) (by omega) (by omega)]; exact hk.2⟩
      rw [un (10 + 7 * s.toNatClampNeg + k.toNatClampNeg) (by omega) (by omega) (by omega), zn_ag (un 2 (by omega) (by omega) (by omega)), zkn_mv (e := Jr (p 4)) (m := (x6 p q sp ln v k Jc Lc).1.toNatClampNeg) sd.2.2.1 (by rw [rw6, zu_k (by omega), zu_k (by omega), zu_s]) sd.2.1 sd.1 (fun j h10 hj => un j hj (by omega) (by omega)), if_pos xp.1] at z175
      have h6' : (x185 p (x6 p q sp ln v k Jc Lc).1 s (x193 p t s k v Jr Lr).2.1 (p 4) 6).toInt = (Jr (p 4) 6).toInt + 1 := by rw [rw6, zu_k (by omega), zu_s, e6]
      have u5 := un 5 (by omega) (by omega) (by omega)
      have fin := ih d (i + Int32.ofInt 1) _ _ (x6 p q sp ln v k Jc Lc).2.2 (x193 p t s k v Jr Lr).2.2 pt.1 pt.2 (zKp_Q X hsq kp3 hQ) (by rw [un 3 (by omega) (by omega) (by omega)]; exact v1) (by rw [un _ (by omega) (by omega) (by omega)]; exact es) ⟨hs.1, by rw [un 1 (by omega) (by omega) (by omega)]; exact hs.2⟩ (by rw [un _ (by omega) (by omega) (by omega)]; exact h0) ⟨hk.1, by rw [un 0 (by omega) (by omega) (by omega)]; exact hk.2⟩ (by rw [lx_inc nw]; omega) (zi_i nw hi0) (by rw [z175, h6', u5]; omega) (by rw [h6', u5]; omega)
      refine ⟨fin.1, fin.2.1, zKp_t kp3 fin.2.2.1, fun j hj => (fin.2.2.2.1 j hj).trans (un j (by omega) (by omega) (by omega)), fin.2.2.2.2.1, fun j hj => (fin.2.2.2.2.2 j hj).trans (un j (by omega) (by omega) (by omega))⟩
end
section
/-! setting out -/
theorem zfill {p q : Nat → Nat} {sp ln T : Nat} {t v s k : Int32} {b : Int} {Jc Jr : Nat → Nat → Int32} {Lc Lr : Nat → Nat → Int64} (X : zX p q) (hsq : ∀ i, i < 17 → sp ≠ q i) (ht : t.toInt = (T : Nat)) (v0 : 0 ≤ v.toInt) (hR : zR q Jc (Jr (p 4))) (hW : zW (Jr (p 4)) b) (hQ : zRQ p sp ln T Jc Jr) (v1 : ¬ Jr (p 4) 3 ≤ v) (es : Jr (p 4) (172 + 5 * v.toNatClampNeg + 0) = s) (hs : 0 ≤ s.toInt ∧ s.toInt < (Jr (p 4) 1).toInt) (h0 : Jr (p 4) (10 + 7 * s.toNatClampNeg + 4) = 0) (hk : 0 ≤ k.toInt ∧ k.toInt < (Jr (p 4) 0).toInt) :
    zR q (x5 p q sp ln v k Jc Lc).1 ((x192_18 p t s v k (((Jr (p 4) 5).toInt - (Jr (p 4) 6).toInt).toNat) Jr Lr).1 (p 4)) ∧ zW ((x192_18 p t s v k (((Jr (p 4) 5).toInt - (Jr (p 4) 6).toInt).toNat) Jr Lr).1 (p 4)) b ∧ zKp p q sp Jc Jr (x5 p q sp ln v k Jc Lc).1 (x192_18 p t s v k (((Jr (p 4) 5).toInt - (Jr (p 4) 6).toInt).toNat) Jr Lr).1 ∧ (∀ j, j < 6 → (x192_18 p t s v k (((Jr (p 4) 5).toInt - (Jr (p 4) 6).toInt).toNat) Jr Lr).1 (p 4) j = Jr (p 4) j) ∧ (x192_18 p t s v k (((Jr (p 4) 5).toInt - (Jr (p 4) 6).toInt).toNat) Jr Lr).1 (p 4) (10 + 7 * s.toNatClampNeg + 4) = 0 ∧ (∀ j, 172 ≤ j → (x192_18 p t s v k (((Jr (p 4) 5).toInt - (Jr (p 4) 6).toInt).toNat) Jr Lr).1 (p 4) j = Jr (p 4) j) := by
  have d0 : Jc (q 6) v.toNatClampNeg = s := by rw [(zV hR hW.w v0 v1).2.2.1, es]
  have hd := hW.a.hd
  have h6 := hW.d.h6
  have e72 : (x72 q Jc).toInt = (Jr (p 4) 5).toInt - (Jr (p 4) 6).toInt := by
    unfold x72
    have n0 : ¬ Jr (p 4) 0 = 0 := fun c => by
      rw [c, show (0 : Int32).toInt = 0 from by decide] at hk
      omega
    rw [hR.2, if_neg n0, if_neg (show ¬ (1 : Int32) = 0 from by decide), zR_5 hR, zR_6 hR, Int32.toInt_sub, Int.bmod_eq_of_le (by omega) (by omega)]
  have e68 : x68 q s k Jc = x175 p s k Jr := zq_68 hR hW.w (zl_of hW (fun _ c => by rw [h0] at c; exact absurd c (by decide))) hs hk
  have l175 := zkn_175 (k := k) hW.w hW.a (zl_of hW (fun _ c => by rw [h0] at c; exact absurd c (by decide))) hs hk
  have ew : (if (x72 q Jc) < (x68 q s k Jc) then (x72 q Jc) else (x68 q s k Jc)).toInt = min (x175 p s k Jr).toInt ((Jr (p 4) 5).toInt - (Jr (p 4) 6).toInt) := by
    rw [e68]
    by_cases c : x72 q Jc < x175 p s k Jr
    · rw [if_pos c, e72]
      have := Int32.lt_iff_toInt_lt.mp c
      omega
    · rw [if_neg c]
      have : ¬ (x72 q Jc).toInt < (x175 p s k Jr).toInt := fun z => c (Int32.lt_iff_toInt_lt.mpr z)
      omega
  unfold x5
  rw [d0]
  have nn : 0 ≤ (if (x72 q Jc) < (x68 q s k Jc) then (x72 q Jc) else (x68 q s k Jc)).toInt := by
    rw [ew]
    omega
  have tn := z_tn nn
  exact zfill_l X hsq ht v0 _ _ _ _ _ _ _ hR hW hQ v1 es hs h0 hk (by rw [show (Int32.ofInt 0).toInt = 0 from by decide]; omega) (by decide) (by rw [← tn]; exact ew) (by omega)
theorem zgo {p q : Nat → Nat} {v s : Int32} {b : Int} {Jc Jr : Nat → Nat → Int32} (X : zX p q) (v0 : 0 ≤ v.toInt) (hR : zR q Jc (Jr (p 4))) (hW : zW (Jr (p 4)) b) (v1 : ¬ Jr (p 4) 3 ≤ v) (es : Jr (p 4) (172 + 5 * v.toNatClampNeg + 0) = s) (hs : 0 ≤ s.toInt ∧ s.toInt < (Jr (p 4) 1).toInt) (h0 : Jr (p 4) (10 + 7 * s.toNatClampNeg + 4) = 0) (hb : b ≤ (Jr (p 4) (172 + 5 * v.toNatClampNeg + 2)).toInt) :
    zR q (if x67 q s Jc = 0 then Jc else (nt_u (nt_u (nt_u Jc (q 10) s.toNatClampNeg (Int32.ofInt 1)) (q 12) s.toNatClampNeg v) (q 16) v.toNatClampNeg (Int32.ofInt 1))) ((if x174 p s Jr = 0 then Jr else (nt_u (nt_u (nt_u Jr (p 4) ((((Int32.ofInt 10) + ((Int32.ofInt 7) * s)) + (Int32.ofInt 4)).toNatClampNeg) (Int32.ofInt 1)) (p 4) ((((Int32.ofInt 10) + ((Int32.ofInt 7) * s)) + (Int32.ofInt 5)).toNatClampNeg) v) (p 4) ((((Int32.ofInt 172) + ((Int32.ofInt 5) * v)) + (Int32.ofInt 4)).toNatClampNeg) (Int32.ofInt 1))) (p 4)) ∧
    zW ((if x174 p s Jr = 0 then Jr else (nt_u (nt_u (nt_u Jr (p 4) ((((Int32.ofInt 10) + ((Int32.ofInt 7) * s)) + (Int32.ofInt 4)).toNatClampNeg) (Int32.ofInt 1)) (p 4) ((((Int32.ofInt 10) + ((Int32.ofInt 7) * s)) + (Int32.ofInt 5)).toNatClampNeg) v) (p 4) ((((Int32.ofInt 172) + ((Int32.ofInt 5) * v)) + (Int32.ofInt 4)).toNatClampNeg) (Int32.ofInt 1))) (p 4)) b ∧
    zKp p q 0 Jc Jr (if x67 q s Jc = 0 then Jc else (nt_u (nt_u (nt_u Jc (q 10) s.toNatClampNeg (Int32.ofInt 1)) (q 12) s.toNatClampNeg v) (q 16) v.toNatClampNeg (Int32.ofInt 1))) (if x174 p s Jr = 0 then Jr else (nt_u (nt_u (nt_u Jr (p 4) ((((Int32.ofInt 10) + ((Int32.ofInt 7) * s)) + (Int32.ofInt 4)).toNatClampNeg) (Int32.ofInt 1)) (p 4) ((((Int32.ofInt 10) + ((Int32.ofInt 7) * s)) + (Int32.ofInt 5)).toNatClampNeg) v) (p 4) ((((Int32.ofInt 172) + ((Int32.ofInt 5) * v)) + (Int32.ofInt 4)).toNatClampNeg) (Int32.ofInt 1))) ∧
    (∀ j, j < 6 → (if x174 p s Jr = 0 then Jr else (nt_u (nt_u (nt_u Jr (p 4) ((((Int32.ofInt 10) + ((Int32.ofInt 7) * s)) + (Int32.ofInt 4)).toNatClampNeg) (Int32.ofInt 1)) (p 4) ((((Int32.ofInt 10) + ((Int32.ofInt 7) * s)) + (Int32.ofInt 5)).toNatClampNeg) v) (p 4) ((((Int32.ofInt 172) + ((Int32.ofInt 5) * v)) + (Int32.ofInt 4)).toNatClampNeg) (Int32.ofInt 1))) (p 4) j = Jr (p 4) j) := by
  have bb := zn_b hW.w
  have e67 : x67 q s Jc = x174 p s Jr := zq_67 hR hW.w (zl_of hW (fun _ c => by rw [h0] at c; exact absurd c (by decide))) hs
  rw [e67]
  by_cases c : x174 p s Jr = 0
  · rw [if_pos c, if_pos c]
    exact ⟨hR, hW, zKp_r, fun _ _ => rfl⟩
  · rw [if_neg c, if_neg c]
    have xv := zx bb.2.2.2.2.2.2.2 v0 v1
    have ts := z_tn hs.1
    rw [zx_s4 hs.1 (by omega), zx_s5 hs.1 (by omega), zx_v4 v0 (by omega)]
    have er : (nt_u (nt_u (nt_u Jr (p 4) (10 + 7 * s.toNatClampNeg + 4) (Int32.ofInt 1)) (p 4) (10 + 7 * s.toNatClampNeg + 5) v) (p 4) (172 + 5 * v.toNatClampNeg + 4) (Int32.ofInt 1)) (p 4) = zu (zu (zu (Jr (p 4)) (10 + 7 * s.toNatClampNeg + 4) (Int32.ofInt 1)) (10 + 7 * s.toNatClampNeg + 5) v) (172 + 5 * v.toNatClampNeg + 4) (Int32.ofInt 1) := by
      rw [zu_r, zu_r, zu_r]
    refine ⟨?_, ?_, ?_, ?_⟩
    · rw [er]
      exact zR_up X.hq (zR_up X.hq (zR_up X.hq hR (by omega) (by omega) (zc_s4 _ (by omega))) (by omega) (by omega) (zc_s5 _ (by omega))) (by omega) (by omega) (zc_v4 _ (by omega))
    · refine zW_out hW (n := s.toNatClampNeg) (v := v.toNatClampNeg) (by omega) h0 xv.1 (by rw [es]; exact ts) hb ?_ ?_ ?_ ?_ ?_
      · exact xr_up (xr_up (xr_up hW.w (xr_any (xr_bs (by omega) (by omega) (by omega)))) (by rw [xr_b5 (by omega)]; show -1 ≤ v.toInt ∧ v.toInt ≤ 7; omega)) (xr_any (xr_bv (by omega) (by omega) (by omega)))
      · rw [er, zu_k (by omega), zu_k (by omega), zu_s]
        rfl
      · rw [er, zu_k (by omega), zu_s]
        exact xv.2
      · rw [er, zu_s]
        rfl
      · intro j a b c
        rw [er, zu_k c, zu_k b, zu_k a]
    · refine ⟨fun a _ h2 => ?_, fun a _ h2 => ?_⟩
      · rw [me_uo (h2 16 (by omega)), me_uo (h2 12 (by omega)), me_uo (h2 10 (by omega))]
      · rw [me_uo h2, me_uo h2, me_uo h2]
    · intro j hj
      rw [er, zu_k (by omega), zu_k (by omega), zu_k (by omega)]
theorem zKp_s {p q : Nat → Nat} {sp sp' : Nat} {Jc Jr Jc' Jr' : Nat → Nat → Int32} (h : zKp p q sp Jc Jr Jc' Jr') : zKp p q sp' Jc Jr Jc' Jr' := ⟨h.c, h.r⟩
theorem zset_l {p q : Nat → Nat} {sp ln T : Nat} {t v s : Int32} {b : Int} (X : zX p q) (hsq : ∀ i, i < 17 → sp ≠ q i) (ht : t.toInt = (T : Nat)) (v0 : 0 ≤ v.toInt) :
    ∀ (c : Nat) (i : Int32) (Jc Jr : Nat → Nat → Int32) (Lc Lr : Nat → Nat → Int64), 0 ≤ i.toInt → zR q Jc (Jr (p 4)) → zW (Jr (p 4)) b → zRQ p sp ln T Jc Jr → ¬ Jr (p 4) 3 ≤ v → Jr (p 4) (172 + 5 * v.toNatClampNeg + 0) = s → (0 ≤ s.toInt ∧ s.toInt < (Jr (p 4) 1).toInt) → Jr (p 4) (10 + 7 * s.toNatClampNeg + 4) = 0 → b ≤ (Jr (p 4) (172 + 5 * v.toNatClampNeg + 2)).toInt →
    zR q (x4_18 p q sp ln v s c i Jc Lc).1 ((x192_3 p t s v c i Jr Lr).1 (p 4)) ∧ zW ((x192_3 p t s v c i Jr Lr).1 (p 4)) b ∧ zKp p q sp Jc Jr (x4_18 p q sp ln v s c i Jc Lc).1 (x192_3 p t s v c i Jr Lr).1 ∧ (∀ j, j < 6 → (x192_3 p t s v c i Jr Lr).1 (p 4) j = Jr (p 4) j) := by
  have pr : ∀ {P : Prop} [Decidable P] {A B : Nat → Nat → Int32} {L : Nat → Nat → Int64}, (if P then (A, L) else (B, L)).1 = (if P then A else B) := by
    intro P _ A B L
    split <;> rfl
  intro c
  induction c with
  | zero =>
    intro i Jc Jr Lc Lr i0 hR hW hQ v1 es hs h0 hb
    have z := zgo X v0 hR hW v1 es hs h0 hb
    rw [x4_18, x192_3, pr, pr]
    exact ⟨z.1, z.2.1, zKp_s z.2.2.1, z.2.2.2⟩
  | succ c ih =>
    intro i Jc Jr Lc Lr i0 hR hW hQ v1 es hs h0 hb
    rw [x4_18, x192_3, zR_n hR (by omega)]
    by_cases h1 : Jr (p 4) 0 ≤ i
    · have z := zgo X v0 hR hW v1 es hs h0 hb
      rw [if_pos h1, if_pos h1, pr, pr]
      exact ⟨z.1, z.2.1, zKp_s z.2.2.1, z.2.2.2⟩
    · rw [if_neg h1, if_neg h1, if_neg (show ¬ t < 0 from fun c => by have := z_le0.mp c; omega)]
      have f := zfill (Lc := Lc) (Lr := Lr) X hsq ht v0 hR hW hQ v1 es hs h0 ⟨i0, z_lt h1⟩
      have bb := zn_b hW.w
      have xv := zx bb.2.2.2.2.2.2.2 v0 v1
      have g := ih (i + Int32.ofInt 1) _ _ (x5 p q sp ln v i Jc Lc).2 (x192_18 p t s v i (((Jr (p 4) 5).toInt - (Jr (p 4) 6).toInt).toNat) Jr Lr).2 (zi_i h1 i0) f.1 f.2.1 (zKp_Q X hsq f.2.2.1 hQ) (by rw [f.2.2.2.1 3 (by omega)]; exact v1) (by rw [f.2.2.2.2.2 _ (by omega)]; exact es) ⟨hs.1, by rw [f.2.2.2.1 1 (by omega)]; exact hs.2⟩ f.2.2.2.2.1 (by rw [f.2.2.2.2.2 _ (by omega)]; exact hb)
      exact ⟨g.1, g.2.1, zKp_t f.2.2.1 g.2.2.1, fun j hj => (g.2.2.2 j hj).trans (f.2.2.2.1 j hj)⟩
theorem zset {p q : Nat → Nat} {sp ln T : Nat} {t v : Int32} {b : Int} {Jc Jr : Nat → Nat → Int32} {Lc Lr : Nat → Nat → Int64} (X : zX p q) (hsq : ∀ i, i < 17 → sp ≠ q i) (ht : t.toInt = (T : Nat)) (v0 : 0 ≤ v.toInt) (hR : zR q Jc (Jr (p 4))) (hW : zW (Jr (p 4)) b) (hQ : zRQ p sp ln T Jc Jr) (v1 : ¬ Jr (p 4) 3 ≤ v) (h0 : Jr (p 4) (10 + 7 * (Jr (p 4) (172 + 5 * v.toNatClampNeg + 0)).toNatClampNeg + 4) = 0) (hb : b ≤ (Jr (p 4) (172 + 5 * v.toNatClampNeg + 2)).toInt) :
    zR q (x4 p q sp ln v Jc Lc).1 ((x192 p t (Jr (p 4) (172 + 5 * v.toNatClampNeg + 0)) v Jr Lr).1 (p 4)) ∧ zW ((x192 p t (Jr (p 4) (172 + 5 * v.toNatClampNeg + 0)) v Jr Lr).1 (p 4)) b ∧ zKp p q sp Jc Jr (x4 p q sp ln v Jc Lc).1 (x192 p t (Jr (p 4) (172 + 5 * v.toNatClampNeg + 0)) v Jr Lr).1 ∧ (∀ j, j < 6 → (x192 p t (Jr (p 4) (172 + 5 * v.toNatClampNeg + 0)) v Jr Lr).1 (p 4) j = Jr (p 4) j) := by
  have bb := zn_b hW.w
  have xv := zx bb.2.2.2.2.2.2.2 v0 v1
  have vo := hW.a.vo _ xv.1
  unfold x4 x192
  rw [(zV hR hW.w v0 v1).2.2.1, zR_n hR (by omega)]
  exact zset_l X hsq ht v0 _ _ _ _ _ _ (by decide) hR hW hQ v1 rfl ⟨vo.1, vo.2.1⟩ h0 hb
/-- nobody moves a plank -/
theorem zsetN {p q : Nat → Nat} {v : Int32} {b : Int} {Jc Jr : Nat → Nat → Int32} {Lr : Nat → Nat → Int64} (X : zX p q) (v0 : 0 ≤ v.toInt) (hR : zR q Jc (Jr (p 4))) (hW : zW (Jr (p 4)) b) (v1 : ¬ Jr (p 4) 3 ≤ v) (h0 : Jr (p 4) (10 + 7 * (Jr (p 4) (172 + 5 * v.toNatClampNeg + 0)).toNatClampNeg + 4) = 0) (hb : b ≤ (Jr (p 4) (172 + 5 * v.toNatClampNeg + 2)).toInt) :
    zR q (x4N p q v Jc) ((x192 p (Int32.ofInt (-1)) (Jr (p 4) (172 + 5 * v.toNatClampNeg + 0)) v Jr Lr).1 (p 4)) ∧ zW ((x192 p (Int32.ofInt (-1)) (Jr (p 4) (172 + 5 * v.toNatClampNeg + 0)) v Jr Lr).1 (p 4)) b ∧ zKp p q 0 Jc Jr (x4N p q v Jc) (x192 p (Int32.ofInt (-1)) (Jr (p 4) (172 + 5 * v.toNatClampNeg + 0)) v Jr Lr).1 ∧ (∀ j, j < 6 → (x192 p (Int32.ofInt (-1)) (Jr (p 4) (172 + 5 * v.toNatClampNeg + 0)) v Jr Lr).1 (p 4) j = Jr (p 4) j) := by
  have pr : ∀ {P : Prop} [Decidable P] {A B : Nat → Nat → Int32} {L : Nat → Nat → Int64}, (if P then (A, L) else (B, L)).1 = (if P then A else B) := by
    intro P _ A B L
    split <;> rfl
  have bb := zn_b hW.w
  have xv := zx bb.2.2.2.2.2.2.2 v0 v1
  have vo := hW.a.vo _ xv.1
  have z := zgo X v0 hR hW v1 rfl ⟨vo.1, vo.2.1⟩ h0 hb
  have e : ∀ c i, (x192_3 p (Int32.ofInt (-1)) (Jr (p 4) (172 + 5 * v.toNatClampNeg + 0)) v c i Jr Lr).1 = (if x174 p (Jr (p 4) (172 + 5 * v.toNatClampNeg + 0)) Jr = 0 then Jr else (nt_u (nt_u (nt_u Jr (p 4) ((((Int32.ofInt 10) + ((Int32.ofInt 7) * (Jr (p 4) (172 + 5 * v.toNatClampNeg + 0)))) + (Int32.ofInt 4)).toNatClampNeg) (Int32.ofInt 1)) (p 4) ((((Int32.ofInt 10) + ((Int32.ofInt 7) * (Jr (p 4) (172 + 5 * v.toNatClampNeg + 0)))) + (Int32.ofInt 5)).toNatClampNeg) v) (p 4) ((((Int32.ofInt 172) + ((Int32.ofInt 5) * v)) + (Int32.ofInt 4)).toNatClampNeg) (Int32.ofInt 1))) := by
    intro c i
    cases c with
    | zero => rw [x192_3, pr]
    | succ c =>
      rw [x192_3]
      by_cases h1 : Jr (p 4) 0 ≤ i
      · rw [if_pos h1, pr]
      · rw [if_neg h1, if_pos (show Int32.ofInt (-1) < 0 from by decide), pr]
  unfold x4N x192
  rw [(zV hR hW.w v0 v1).2.2.1, e]
  exact z
/-! a day's end -/
theorem zday {p q : Nat → Nat} {b : Int} {Jc Jr : Nat → Nat → Int32} (X : zX p q) (hR : zR q Jc (Jr (p 4))) (hW : zW (Jr (p 4)) b) (h9 : (Jr (p 4) 4).toInt ≤ 900) :
    zR q (nt_u (nt_u Jc (q 0) 2 ((Jc (q 0) 2) + (Int32.ofInt 1))) (q 0) 3 (Int32.ofInt 0)) ((nt_u (nt_u Jr (p 4) 4 ((Jr (p 4) 4) + (Int32.ofInt 1))) (p 4) 6 (Int32.ofInt 0)) (p 4)) ∧ zW ((nt_u (nt_u Jr (p 4) 4 ((Jr (p 4) 4) + (Int32.ofInt 1))) (p 4) 6 (Int32.ofInt 0)) (p 4)) b ∧ zKp p q 0 Jc Jr (nt_u (nt_u Jc (q 0) 2 ((Jc (q 0) 2) + (Int32.ofInt 1))) (q 0) 3 (Int32.ofInt 0)) (nt_u (nt_u Jr (p 4) 4 ((Jr (p 4) 4) + (Int32.ofInt 1))) (p 4) 6 (Int32.ofInt 0)) ∧ ((nt_u (nt_u Jr (p 4) 4 ((Jr (p 4) 4) + (Int32.ofInt 1))) (p 4) 6 (Int32.ofInt 0)) (p 4) 4).toInt = (Jr (p 4) 4).toInt + 1 := by
  have d4 := hW.d.d4
  have e4 : (Jr (p 4) 4 + Int32.ofInt 1).toInt = (Jr (p 4) 4).toInt + 1 := by
    rw [Int32.toInt_add, show (Int32.ofInt 1).toInt = 1 from by decide, Int.bmod_eq_of_le (by omega) (by omega)]
  have er : (nt_u (nt_u Jr (p 4) 4 ((Jr (p 4) 4) + (Int32.ofInt 1))) (p 4) 6 (Int32.ofInt 0)) (p 4) = zu (zu (Jr (p 4)) 4 (Jr (p 4) 4 + Int32.ofInt 1)) 6 (Int32.ofInt 0) := by
    rw [zu_r, zu_r]
  refine ⟨?_, ?_, ⟨fun a _ h2 => ?_, fun a _ h2 => ?_⟩, ?_⟩
  · rw [er, zR_4 hR]
    exact zR_up X.hq (zR_up X.hq hR (by omega) (by omega) rfl) (by omega) (by omega) rfl
  · refine zW_day hW ?_ ?_ ?_ ?_
    · exact xr_up (xr_up hW.w (xr_any rfl)) (xr_any rfl)
    · rw [er, zu_k (by omega), zu_s, e4]
      omega
    · rw [er, zu_s]
      rfl
    · intro j a c
      rw [er, zu_k c, zu_k a]
  · rw [me_uo (h2 0 (by omega)), me_uo (h2 0 (by omega))]
  · rw [me_uo h2, me_uo h2]
  · rw [er, zu_k (by omega), zu_s, e4]
end
section
/-! a day -/
theorem zhc_fr {q : Nat → Nat} {a : Nat} (h : ∀ i, i < 17 → a ≠ q i) : ∀ (c : Nat) (i : Int32) (J : Nat → Nat → Int32), zhc q c i J a = J a := by
  intro c
  induction c with
  | zero => intro i J; rfl
  | succ c ih =>
    intro i J
    rw [zhc]
    split
    · rfl
    · split
      · split
        · exact ih _ _
        · exact (ih _ _).trans (x3_frJ (h 0 (by omega)) (h 10 (by omega)) (h 11 (by omega)) (h 12 (by omega)) (h 16 (by omega)))
      · exact ih _ _
theorem zhr_fr {p : Nat → Nat} {a : Nat} (h : a ≠ p 4) : ∀ (c : Nat) (i : Int32) (J : Nat → Nat → Int32), zhr p c i J a = J a := by
  intro c
  induction c with
  | zero => intro i J; rfl
  | succ c ih =>
    intro i J
    rw [zhr]
    split
    · rfl
    · split
      · split
        · exact (ih _ _).trans (x191_frJ h)
        · exact ih _ _
      · exact ih _ _
theorem zthird {p q : Nat → Nat} {sp ln : Nat} {b : Int} {Lc Lr : Nat → Nat → Int64} (X : zX p q) : ∀ (c : Nat) (i : Int32) (Jc Jr : Nat → Nat → Int32), 0 ≤ i.toInt → zR q Jc (Jr (p 4)) → zW (Jr (p 4)) b → (Jr (p 4) 4).toInt ≤ 900 → zR q ((x1_111 p q sp ln Lc c i Jc).1) ((x190_108 p Lr c i Jr).1 (p 4)) ∧ zW ((x190_108 p Lr c i Jr).1 (p 4)) b ∧ zKp p q 0 Jc Jr ((x1_111 p q sp ln Lc c i Jc).1) (x190_108 p Lr c i Jr).1 ∧ ((x190_108 p Lr c i Jr).1 (p 4) 4).toInt = (Jr (p 4) 4).toInt + 1 := by
  intro c
  induction c with
  | zero =>
    intro i Jc Jr i0 hR hW h9
    exact zday X hR hW h9
  | succ c ih =>
    intro i Jc Jr i0 hR hW h9
    rw [x1_111, x190_108, zR_n hR (by omega)]
    by_cases h1 : Jr (p 4) 1 ≤ i
    · rw [if_pos h1, if_pos h1]
      exact zday X hR hW h9
    · rw [if_neg h1, if_neg h1]
      have lt := z_lt h1
      have s := zS hR hW.w i0 lt
      rw [s.2.2.1, s.2.2.2.2.2.1]
      by_cases h2 : Jr (p 4) (10 + 7 * i.toNatClampNeg + 4) = Int32.ofInt 1
      · rw [if_pos h2, if_pos h2]
        have z := zrot X.hq hR hW ⟨i0, lt⟩ h2
        have k := xw_202 hW.w (xi_l5 hW.w h1 i0)
        have e4 := k.2 4 (by omega)
        have g := ih (i + Int32.ofInt 1) _ _ (zi_i h1 i0) z.1 z.2 (by rw [e4]; exact h9)
        refine ⟨g.1, g.2.1, zKp_t ⟨fun a _ h3 => ?_, fun a _ h3 => ?_⟩ g.2.2.1, by rw [g.2.2.2, e4]⟩
        · exact x9_frJ (h3 10 (by omega)) (h3 12 (by omega)) (h3 13 (by omega)) (h3 15 (by omega)) (h3 16 (by omega))
        · exact x202_frJ h3
      · rw [if_neg h2, if_neg h2]
        exact ih _ _ _ (zi_i h1 i0) hR hW h9
theorem zsec {p q : Nat → Nat} {sp ln T : Nat} {t : Int32} {d : Int} (hsq : ∀ i, i < 17 → sp ≠ q i) (ht : t.toInt = (T : Nat)) (X : zX p q) : ∀ (c : Nat) (i : Int32) (Jc Jr : Nat → Nat → Int32) (Lc Lr : Nat → Nat → Int64), 0 ≤ i.toInt → zR q Jc (Jr (p 4)) → zW (Jr (p 4)) (d + 1) → zRQ p sp ln T Jc Jr → (Jr (p 4) 4).toInt = d → (Jr (p 4) 4).toInt ≤ 900 → zR q ((x1_48 p q sp ln c i Jc Lc).1) ((x190_50 p t c i Jr Lr).1 (p 4)) ∧ zW ((x190_50 p t c i Jr Lr).1 (p 4)) (d + 1) ∧ zKp p q sp Jc Jr ((x1_48 p q sp ln c i Jc Lc).1) (x190_50 p t c i Jr Lr).1 ∧ ((x190_50 p t c i Jr Lr).1 (p 4) 4).toInt = (Jr (p 4) 4).toInt + 1 := by
  intro c
  induction c with
  | zero =>
    intro i Jc Jr Lc Lr i0 hR hW hQ ed h9
    rw [x1_48, x190_50, zR_n hR (by omega)]
    exact (by
        have z := zthird (b := d + 1) (Lr := Lr) (sp := sp) (ln := ln) (Lc := Lc) X ((Jr (p 4) 1).toNatClampNeg) (Int32.ofInt 0) Jc Jr (by decide) hR hW h9
        exact ⟨z.1, z.2.1, zKp_s z.2.2.1, z.2.2.2⟩)
  | succ c ih =>
    intro i Jc Jr Lc Lr i0 hR hW hQ ed h9
    rw [x1_48, x190_50, zR_n hR (by omega), zR_n hR (by omega)]
    by_cases h1 : Jr (p 4) 3 ≤ i
    · rw [if_pos h1, if_pos h1]
      exact (by
        have z := zthird (b := d + 1) (Lr := Lr) (sp := sp) (ln := ln) (Lc := Lc) X ((Jr (p 4) 1).toNatClampNeg) (Int32.ofInt 0) Jc Jr (by decide) hR hW h9
        exact ⟨z.1, z.2.1, zKp_s z.2.2.1, z.2.2.2⟩)
    · rw [if_neg h1, if_neg h1]
      obtain ⟨vn, vi, d0, d1, d2, d3, d4, s0, s1, s2, s3, s4⟩ := zV hR hW.w i0 h1
      have vo := hW.a.vo _ vn
      have sS := zS hR hW.w vo.1 vo.2.1
      rw [d0, d1, s0, s1, zR_4 hR, sS.2.2.1]
      by_cases h2 : Jr (p 4) (172 + 5 * i.toNatClampNeg + 1) = Jr (p 4) 4
      · rw [if_pos h2, if_pos h2]
        have e182 : x182 p (Jr (p 4) (172 + 5 * i.toNatClampNeg + 0)) Jr = if Jr (p 4) (10 + 7 * (Jr (p 4) (172 + 5 * i.toNatClampNeg + 0)).toNatClampNeg + 4) = 0 then Int32.ofInt 1 else Int32.ofInt 0 := by
          unfold x182
          rw [sS.2.2.2.2.2.1]
        rw [e182]
        by_cases h3 : Jr (p 4) (10 + 7 * (Jr (p 4) (172 + 5 * i.toNatClampNeg + 0)).toNatClampNeg + 4) = 0
        · rw [if_pos h3, if_pos h3, if_neg (show ¬ Int32.ofInt 1 = 0 from by decide)]
          have hb : d + 1 ≤ (Jr (p 4) (172 + 5 * i.toNatClampNeg + 2)).toInt := by
            have := congrArg Int32.toInt h2
            omega
          have z := zset (Lc := Lc) (Lr := Lr) X hsq ht i0 hR hW hQ h1 h3 hb
          have e4 := z.2.2.2 4 (by omega)
          have g := ih (i + Int32.ofInt 1) _ _ (x4 p q sp ln i Jc Lc).2 (x192 p t (Jr (p 4) (172 + 5 * i.toNatClampNeg + 0)) i Jr Lr).2 (zi_i h1 i0) z.1 z.2.1 (zKp_Q X hsq z.2.2.1 hQ) (by rw [e4]; exact ed) (by rw [e4]; exact h9)
          exact ⟨g.1, g.2.1, zKp_t z.2.2.1 g.2.2.1, by rw [g.2.2.2, e4]⟩
        · rw [if_neg h3, if_neg h3, if_pos (show Int32.ofInt 0 = 0 from rfl)]
          exact ih _ _ _ _ _ (zi_i h1 i0) hR hW hQ ed h9
      · rw [if_neg h2, if_neg h2]
        exact ih _ _ _ _ _ (zi_i h1 i0) hR hW hQ ed h9
/-- a day goes by by a rule -/
theorem zpass {p q : Nat → Nat} {sp ln T : Nat} {t : Int32} {Jc Jr : Nat → Nat → Int32} {Lc Lr : Nat → Nat → Int64} (hsq : ∀ i, i < 17 → sp ≠ q i) (ht : t.toInt = (T : Nat)) (hQ : zRQ p sp ln T Jc Jr) (X : zX p q) (hR : zR q Jc (Jr (p 4))) (hW : zW (Jr (p 4)) (Jr (p 4) 4).toInt) (h9 : (Jr (p 4) 4).toInt ≤ 900) : zR q ((x1 p q sp ln Jc Lc).1) ((x190 p t Jr Lr).1 (p 4)) ∧ zW ((x190 p t Jr Lr).1 (p 4)) ((x190 p t Jr Lr).1 (p 4) 4).toInt ∧ zKp p q sp Jc Jr ((x1 p q sp ln Jc Lc).1) (x190 p t Jr Lr).1 ∧ ((x190 p t Jr Lr).1 (p 4) 4).toInt = (Jr (p 4) 4).toInt + 1 := by
  have h := zhome X.hq hR hW
  have kh : zKp p q sp Jc Jr (zhc q ((Jc (q 1) 1).toNatClampNeg) (Int32.ofInt 0) Jc) (zhr p ((Jr (p 4) 3).toNatClampNeg) (Int32.ofInt 0) Jr) := ⟨fun a _ h2 => zhc_fr h2 _ _ _, fun a _ h2 => zhr_fr h2 _ _ _⟩
  unfold x1 x190
  rw [zhc_1, zhr_1]
  have e3 := zR_n h.1 (i := 3) (by omega)
  rw [e3]
  have g := zsec (d := (Jr (p 4) 4).toInt) hsq ht X ((zhr p ((Jr (p 4) 3).toNatClampNeg) (Int32.ofInt 0) Jr (p 4) 3).toNatClampNeg) (Int32.ofInt 0) _ _ Lc Lr (by decide) h.1 h.2.1 (zKp_Q X hsq kh hQ) (by rw [h.2.2]) (by rw [h.2.2]; exact h9)
  rw [h.2.2] at g
  refine ⟨g.1, ?_, zKp_t kh g.2.2.1, g.2.2.2⟩
  rw [g.2.2.2]
  exact g.2.1
theorem zthirdN {p q : Nat → Nat} {b : Int} {Lr : Nat → Nat → Int64} (X : zX p q) : ∀ (c : Nat) (i : Int32) (Jc Jr : Nat → Nat → Int32), 0 ≤ i.toInt → zR q Jc (Jr (p 4)) → zW (Jr (p 4)) b → (Jr (p 4) 4).toInt ≤ 900 → zR q (x1N_111 p q c i Jc) ((x190_108 p Lr c i Jr).1 (p 4)) ∧ zW ((x190_108 p Lr c i Jr).1 (p 4)) b ∧ zKp p q 0 Jc Jr (x1N_111 p q c i Jc) (x190_108 p Lr c i Jr).1 ∧ ((x190_108 p Lr c i Jr).1 (p 4) 4).toInt = (Jr (p 4) 4).toInt + 1 := by
  intro c
  induction c with
  | zero =>
    intro i Jc Jr i0 hR hW h9
    exact zday X hR hW h9
  | succ c ih =>
    intro i Jc Jr i0 hR hW h9
    rw [x1N_111, x190_108, zR_n hR (by omega)]
    by_cases h1 : Jr (p 4) 1 ≤ i
    · rw [if_pos h1, if_pos h1]
      exact zday X hR hW h9
    · rw [if_neg h1, if_neg h1]
      have lt := z_lt h1
      have s := zS hR hW.w i0 lt
      rw [s.2.2.1, s.2.2.2.2.2.1]
      by_cases h2 : Jr (p 4) (10 + 7 * i.toNatClampNeg + 4) = Int32.ofInt 1
      · rw [if_pos h2, if_pos h2]
        have z := zrot X.hq hR hW ⟨i0, lt⟩ h2
        have k := xw_202 hW.w (xi_l5 hW.w h1 i0)
        have e4 := k.2 4 (by omega)
        have g := ih (i + Int32.ofInt 1) _ _ (zi_i h1 i0) z.1 z.2 (by rw [e4]; exact h9)
        refine ⟨g.1, g.2.1, zKp_t ⟨fun a _ h3 => ?_, fun a _ h3 => ?_⟩ g.2.2.1, by rw [g.2.2.2, e4]⟩
        · exact x9_frJ (h3 10 (by omega)) (h3 12 (by omega)) (h3 13 (by omega)) (h3 15 (by omega)) (h3 16 (by omega))
        · exact x202_frJ h3
      · rw [if_neg h2, if_neg h2]
        exact ih _ _ _ (zi_i h1 i0) hR hW h9
theorem zsecN {p q : Nat → Nat} {d : Int} (X : zX p q) : ∀ (c : Nat) (i : Int32) (Jc Jr : Nat → Nat → Int32) (Lr : Nat → Nat → Int64), 0 ≤ i.toInt → zR q Jc (Jr (p 4)) → zW (Jr (p 4)) (d + 1) → (Jr (p 4) 4).toInt = d → (Jr (p 4) 4).toInt ≤ 900 → zR q (x1N_48 p q c i Jc) ((x190_50 p (Int32.ofInt (-1)) c i Jr Lr).1 (p 4)) ∧ zW ((x190_50 p (Int32.ofInt (-1)) c i Jr Lr).1 (p 4)) (d + 1) ∧ zKp p q 0 Jc Jr (x1N_48 p q c i Jc) (x190_50 p (Int32.ofInt (-1)) c i Jr Lr).1 ∧ ((x190_50 p (Int32.ofInt (-1)) c i Jr Lr).1 (p 4) 4).toInt = (Jr (p 4) 4).toInt + 1 := by
  intro c
  induction c with
  | zero =>
    intro i Jc Jr Lr i0 hR hW ed h9
    rw [x1N_48, x190_50, zR_n hR (by omega)]
    exact (by
        have z := zthirdN (b := d + 1) (Lr := Lr) X ((Jr (p 4) 1).toNatClampNeg) (Int32.ofInt 0) Jc Jr (by decide) hR hW h9
        exact ⟨z.1, z.2.1, zKp_s z.2.2.1, z.2.2.2⟩)
  | succ c ih =>
    intro i Jc Jr Lr i0 hR hW ed h9
    rw [x1N_48, x190_50, zR_n hR (by omega), zR_n hR (by omega)]
    by_cases h1 : Jr (p 4) 3 ≤ i
    · rw [if_pos h1, if_pos h1]
      exact (by
        have z := zthirdN (b := d + 1) (Lr := Lr) X ((Jr (p 4) 1).toNatClampNeg) (Int32.ofInt 0) Jc Jr (by decide) hR hW h9
        exact ⟨z.1, z.2.1, zKp_s z.2.2.1, z.2.2.2⟩)
    · rw [if_neg h1, if_neg h1]
      obtain ⟨vn, vi, d0, d1, d2, d3, d4, s0, s1, s2, s3, s4⟩ := zV hR hW.w i0 h1
      have vo := hW.a.vo _ vn
      have sS := zS hR hW.w vo.1 vo.2.1
      rw [d0, d1, s0, s1, zR_4 hR, sS.2.2.1]
      by_cases h2 : Jr (p 4) (172 + 5 * i.toNatClampNeg + 1) = Jr (p 4) 4
      · rw [if_pos h2, if_pos h2]
        have e182 : x182 p (Jr (p 4) (172 + 5 * i.toNatClampNeg + 0)) Jr = if Jr (p 4) (10 + 7 * (Jr (p 4) (172 + 5 * i.toNatClampNeg + 0)).toNatClampNeg + 4) = 0 then Int32.ofInt 1 else Int32.ofInt 0 := by
          unfold x182
          rw [sS.2.2.2.2.2.1]
        rw [e182]
        by_cases h3 : Jr (p 4) (10 + 7 * (Jr (p 4) (172 + 5 * i.toNatClampNeg + 0)).toNatClampNeg + 4) = 0
        · rw [if_pos h3, if_pos h3, if_neg (show ¬ Int32.ofInt 1 = 0 from by decide)]
          have hb : d + 1 ≤ (Jr (p 4) (172 + 5 * i.toNatClampNeg + 2)).toInt := by
            have := congrArg Int32.toInt h2
            omega
          have z := zsetN (Lr := Lr) X i0 hR hW h1 h3 hb
          have e4 := z.2.2.2 4 (by omega)
          have g := ih (i + Int32.ofInt 1) _ _ (x192 p (Int32.ofInt (-1)) (Jr (p 4) (172 + 5 * i.toNatClampNeg + 0)) i Jr Lr).2 (zi_i h1 i0) z.1 z.2.1 (by rw [e4]; exact ed) (by rw [e4]; exact h9)
          exact ⟨g.1, g.2.1, zKp_t z.2.2.1 g.2.2.1, by rw [g.2.2.2, e4]⟩
        · rw [if_neg h3, if_neg h3, if_pos (show Int32.ofInt 0 = 0 from rfl)]
          exact ih _ _ _ _ (zi_i h1 i0) hR hW ed h9
      · rw [if_neg h2, if_neg h2]
        exact ih _ _ _ _ (zi_i h1 i0) hR hW ed h9
/-- a day goes by by none -/
theorem zpassN {p q : Nat → Nat} {Jc Jr : Nat → Nat → Int32} {Lr : Nat → Nat → Int64} (X : zX p q) (hR : zR q Jc (Jr (p 4))) (hW : zW (Jr (p 4)) (Jr (p 4) 4).toInt) (h9 : (Jr (p 4) 4).toInt ≤ 900) : zR q (x1N p q Jc) ((x190 p (Int32.ofInt (-1)) Jr Lr).1 (p 4)) ∧ zW ((x190 p (Int32.ofInt (-1)) Jr Lr).1 (p 4)) ((x190 p (Int32.ofInt (-1)) Jr Lr).1 (p 4) 4).toInt ∧ zKp p q 0 Jc Jr (x1N p q Jc) (x190 p (Int32.ofInt (-1)) Jr Lr).1 ∧ ((x190 p (Int32.ofInt (-1)) Jr Lr).1 (p 4) 4).toInt = (Jr (p 4) 4).toInt + 1 := by
  have h := zhome X.hq hR hW
  have kh : zKp p q 0 Jc Jr (zhc q ((Jc (q 1) 1).toNatClampNeg) (Int32.ofInt 0) Jc) (zhr p ((Jr (p 4) 3).toNatClampNeg) (Int32.ofInt 0) Jr) := ⟨fun a _ h2 => zhc_fr h2 _ _ _, fun a _ h2 => zhr_fr h2 _ _ _⟩
  unfold x1N x190
  rw [zhc_N, zhr_1]
  have e3 := zR_n h.1 (i := 3) (by omega)
  rw [e3]
  have g := zsecN (d := (Jr (p 4) 4).toInt) X ((zhr p ((Jr (p 4) 3).toNatClampNeg) (Int32.ofInt 0) Jr (p 4) 3).toNatClampNeg) (Int32.ofInt 0) _ _ Lr (by decide) h.1 h.2.1 (by rw [h.2.2]) (by rw [h.2.2]; exact h9)
  rw [h.2.2] at g
  refine ⟨g.1, ?_, zKp_t kh g.2.2.1, g.2.2.2⟩
  rw [g.2.2.2]
  exact g.2.1
end
section
/-! a rule's text gives the same code to both sides -/
theorem zb_15 {n : Nat} (h : n < 2147483648) : ((Int32.ofNat n) &&& Int32.ofInt 15) = Int32.ofNat (n % 16) := by
  apply Int32.toBitVec.inj
  rw [Int32.toBitVec_and]
  apply BitVec.eq_of_toNat_eq
  have e : (Int32.ofInt 15).toBitVec = 15#32 := by decide
  rw [e, Int32.toBitVec_ofNat', Int32.toBitVec_ofNat']
  rw [BitVec.toNat_and, BitVec.toNat_ofNat, BitVec.toNat_ofNat, BitVec.toNat_ofNat]
  have : n % 2 ^ 32 &&& 15 % 2 ^ 32 = (n % 2 ^ 32) % 16 := Nat.and_two_pow_sub_one_eq_mod (n % 2 ^ 32) 4
  rw [this]
  omega
theorem zb_4 {n : Nat} (h : n < 2147483648) : ((Int32.ofNat n) >>> (Int32.ofInt 4 &&& 31)) = Int32.ofNat (n / 16) := by
  apply Int32.toInt_inj.mp
  have e : (Int32.ofInt 4 &&& 31) = 4 := by decide
  rw [e]
  have t : ∀ m : Nat, m < 2147483648 → (Int32.ofNat m).toInt = m := fun m hm => by
    have z : Int32.size = 4294967296 := rfl
    rw [Int32.toInt_ofNat']
    rw [Int.bmod_eq_of_le (by omega) (by omega)]
  show (Int32.ofNat n >>> 4).toBitVec.toInt = _
  rw [Int32.toBitVec_shiftRight, t _ (by omega)]
  have e2 : (BitVec.smod (Int32.toBitVec 4) 32) = 4#32 := by decide
  rw [e2, BitVec.sshiftRight_eq', BitVec.toInt_sshiftRight]
  show (Int32.ofNat n).toInt >>> (4#32).toNat = _
  rw [t n h, show (4#32).toNat = 4 from rfl, Int.shiftRight_eq_div_pow]
  rfl
def zLL (g h : Nat → Int32) (m a n b : Nat) (B : List Int64 → Prop) : Prop := (∀ w, ∃ vs, B vs ∧ ∀ st, zcr w g m a st = some (vs ++ st) ∧ zrr w h n b st = some (vs ++ st)) ∧ (∀ j, a ≤ j → j < a + m → g j ≠ Int32.ofInt 22 ∧ g j ≠ Int32.ofInt 23) ∧ (∀ j, b ≤ j → j < b + n → zwk (h j))
def zJ (e e' : lb_E) (k : Nat) (B : List Int64 → Prop) : Prop := (e.1.1 ≤ e'.1.1) ∧ (e.2.1 ≤ e'.2.1) ∧ (∀ j, j < e.1.1 → e'.1.2 j = e.1.2 j) ∧ (∀ j, j < e.2.1 → e'.2.2 j = e.2.2 j) ∧ (zLL e'.1.2 e'.2.2 (e'.1.1 - e.1.1) e.1.1 (e'.2.1 - e.2.1) e.2.1 B) ∧ (zpc e'.1.2 (e'.1.1 - e.1.1) e.1.1 ≤ k) ∧ (e'.1.1 + e.2.1 = e'.2.1 + e.1.1)
theorem zJ.l1 {e e' : lb_E} {k : Nat} {B : List Int64 → Prop} (h_ : zJ e e' k B) : e.1.1 ≤ e'.1.1 := h_.1
theorem zJ.l2 {e e' : lb_E} {k : Nat} {B : List Int64 → Prop} (h_ : zJ e e' k B) : e.2.1 ≤ e'.2.1 := h_.2.1
theorem zJ.p1 {e e' : lb_E} {k : Nat} {B : List Int64 → Prop} (h_ : zJ e e' k B) : ∀ j, j < e.1.1 → e'.1.2 j = e.1.2 j := h_.2.2.1
theorem zJ.p2 {e e' : lb_E} {k : Nat} {B : List Int64 → Prop} (h_ : zJ e e' k B) : ∀ j, j < e.2.1 → e'.2.2 j = e.2.2 j := h_.2.2.2.1
theorem zJ.s {e e' : lb_E} {k : Nat} {B : List Int64 → Prop} (h_ : zJ e e' k B) : zLL e'.1.2 e'.2.2 (e'.1.1 - e.1.1) e.1.1 (e'.2.1 - e.2.1) e.2.1 B := h_.2.2.2.2.1
theorem zJ.c {e e' : lb_E} {k : Nat} {B : List Int64 → Prop} (h_ : zJ e e' k B) : zpc e'.1.2 (e'.1.1 - e.1.1) e.1.1 ≤ k := h_.2.2.2.2.2.1
theorem zJ.d {e e' : lb_E} {k : Nat} {B : List Int64 → Prop} (h_ : zJ e e' k B) : e'.1.1 + e.2.1 = e'.2.1 + e.1.1 := h_.2.2.2.2.2.2
theorem zJ_r {e : lb_E} : zJ e e 0 (fun vs => vs = []) := by
  refine ⟨Nat.le_refl _, Nat.le_refl _, fun _ _ => rfl, fun _ _ => rfl, ?_, ?_, by omega⟩
  · rw [Nat.sub_self, Nat.sub_self]
    exact ⟨fun w => ⟨[], rfl, fun st => ⟨rfl, rfl⟩⟩, fun j h1 h2 => by omega, fun j h1 h2 => by omega⟩
  · rw [Nat.sub_self]
    exact Nat.le_refl _
theorem zJ_w {e e' : lb_E} {k k' : Nat} {B B' : List Int64 → Prop} (h : zJ e e' k B) (hk : k ≤ k') (hB : ∀ vs, B vs → B' vs) : zJ e e' k' B' :=
  ⟨h.l1, h.l2, h.p1, h.p2, ⟨fun w => by obtain ⟨vs, b, c⟩ := h.s.1 w; exact ⟨vs, hB vs b, c⟩, h.s.2⟩, Nat.le_trans h.c hk, h.d⟩
theorem zJ_t {e e1 e2 : lb_E} {k1 k2 : Nat} {B1 B2 : List Int64 → Prop} (h : zJ e e1 k1 B1) (g : zJ e1 e2 k2 B2) : zJ e e2 (k1 + k2) (fun vs => ∃ v1 v2, B1 v1 ∧ B2 v2 ∧ vs = v2 ++ v1) := by
  have a1 := h.l1
  have a2 := h.l2
  have b1 := g.l1
  have b2 := g.l2
  refine ⟨by omega, by omega, fun j hj => (g.p1 j (by omega)).trans (h.p1 j hj), fun j hj => (g.p2 j (by omega)).trans (h.p2 j hj), ⟨fun w => ?_, fun j h1 h2 => ?_, fun j h1 h2 => ?_⟩, ?_, by have := h.d; have := g.d; omega⟩
  · obtain ⟨v1, c1, d1⟩ := h.s.1 w
    obtain ⟨v2, c2, d2⟩ := g.s.1 w
    refine ⟨v2 ++ v1, ⟨v1, v2, c1, c2, rfl⟩, fun st => ⟨?_, ?_⟩⟩
    · rw [show e2.1.1 - e.1.1 = (e1.1.1 - e.1.1) + (e2.1.1 - e1.1.1) from by omega, zcr_add, zcr_ag (g := e1.1.2) _ _ _ (fun j h1 h2 => g.p1 j (by omega)), (d1 st).1]
      show zcr w e2.1.2 (e2.1.1 - e1.1.1) (e.1.1 + (e1.1.1 - e.1.1)) (v1 ++ st) = _
      rw [show e.1.1 + (e1.1.1 - e.1.1) = e1.1.1 from by omega, (d2 (v1 ++ st)).1, List.append_assoc]
    · rw [show e2.2.1 - e.2.1 = (e1.2.1 - e.2.1) + (e2.2.1 - e1.2.1) from by omega, zrr_add, zrr_ag (g := e1.2.2) _ _ _ (fun j h1 h2 => g.p2 j (by omega)), (d1 st).2]
      show zrr w e2.2.2 (e2.2.1 - e1.2.1) (e.2.1 + (e1.2.1 - e.2.1)) (v1 ++ st) = _
      rw [show e.2.1 + (e1.2.1 - e.2.1) = e1.2.1 from by omega, (d2 (v1 ++ st)).2, List.append_assoc]
  · by_cases c : j < e1.1.1
    · rw [g.p1 j c]
      exact h.s.2.1 j h1 (by omega)
    · exact g.s.2.1 j (by omega) (by omega)
  · by_cases c : j < e1.2.1
    · rw [g.p2 j c]
      exact h.s.2.2 j h1 (by omega)
    · exact g.s.2.2 j (by omega) (by omega)
  · rw [show e2.1.1 - e.1.1 = (e1.1.1 - e.1.1) + (e2.1.1 - e1.1.1) from by omega, zpc_add, zpc_ag (g := e1.1.2) _ _ (fun j h1 h2 => g.p1 j (by omega)), show e.1.1 + (e1.1.1 - e.1.1) = e1.1.1 from by omega]
    have := h.c
    have := g.c
    omega
theorem zem {e : lb_E} {x y : Int32} (h : e.1.1 < 400) : lb_em e x y = ((e.1.1 + 1, fun j => if j = e.1.1 then x else e.1.2 j), (e.2.1 + 1, fun j => if j = e.2.1 then y else e.2.2 j)) := by
  unfold lb_em lb_e lb_a
  rw [if_pos h]
/-- one step more -/
theorem zJ_1 {e e1 : lb_E} {x y : Int32} {k : Nat} {B B' : List Int64 → Prop} (h : zJ e e1 k B) (h4 : e1.1.1 < 400) (hx : x ≠ Int32.ofInt 22 ∧ x ≠ Int32.ofInt 23) (hy : zwk y) (hs : ∀ w vs, B vs → ∃ vs', B' vs' ∧ ∀ st, zcs w x (vs ++ st) = some (vs' ++ st) ∧ zrs w y (vs ++ st) = some (vs' ++ st)) : zJ e (lb_em e1 x y) (k + (if zpu x then 1 else 0)) B' := by
  have a1 := h.l1
  have a2 := h.l2
  rw [zem h4]
  refine ⟨by dsimp only; omega, by dsimp only; omega, fun j hj => ?_, fun j hj => ?_, ⟨fun w => ?_, fun j h1 h2 => ?_, fun j h1 h2 => ?_⟩, ?_, by have := h.d; dsimp only; omega⟩
  · dsimp only
    rw [if_neg (by omega)]
    exact h.p1 j hj
  · dsimp only
    rw [if_neg (by omega)]
    exact h.p2 j hj
  · obtain ⟨vs, b, c⟩ := h.s.1 w
    obtain ⟨vs', b', c'⟩ := hs w vs b
    refine ⟨vs', b', fun st => ⟨?_, ?_⟩⟩
    · dsimp only
      rw [show e1.1.1 + 1 - e.1.1 = (e1.1.1 - e.1.1) + 1 from by omega, zcr_add, zcr_ag (g := e1.1.2) _ _ _ (fun j h1 h2 => if_neg (by omega)), (c st).1]
      show (zcs w (if e.1.1 + (e1.1.1 - e.1.1) = e1.1.1 then x else _) (vs ++ st)).bind _ = _
      rw [if_pos (by omega), (c' st).1]
      rfl
    · dsimp only
      rw [show e1.2.1 + 1 - e.2.1 = (e1.2.1 - e.2.1) + 1 from by omega, zrr_add, zrr_ag (g := e1.2.2) _ _ _ (fun j h1 h2 => if_neg (by omega)), (c st).2]
      show (zrs w (if e.2.1 + (e1.2.1 - e.2.1) = e1.2.1 then y else _) (vs ++ st)).bind _ = _
      rw [if_pos (by omega), (c' st).2]
      rfl
  · dsimp only at h2 ⊢
    by_cases c : j = e1.1.1
    · rw [if_pos c]
      exact hx
    · rw [if_neg c]
      exact h.s.2.1 j h1 (by omega)
  · dsimp only at h2 ⊢
    by_cases c : j = e1.2.1
    · rw [if_pos c]
      exact hy
    · rw [if_neg c]
      exact h.s.2.2 j h1 (by omega)
  · dsimp only
    rw [show e1.1.1 + 1 - e.1.1 = (e1.1.1 - e.1.1) + 1 from by omega, zpc_add, zpc_ag (g := e1.1.2) _ _ (fun j h1 h2 => if_neg (by omega))]
    show _ + ((if zpu (if e.1.1 + (e1.1.1 - e.1.1) = e1.1.1 then x else _) then 1 else 0) + 0) ≤ _
    rw [if_pos (show e.1.1 + (e1.1.1 - e.1.1) = e1.1.1 from by omega)]
    have := h.c
    omega
def z1v (vs : List Int64) : Prop := ∃ v, vs = [v]
def z1b (vs : List Int64) : Prop := ∃ v, (v = 0 ∨ v = 1) ∧ vs = [v]
def z2v (vs : List Int64) : Prop := ∃ a b, vs = [b, a]
def z2b (vs : List Int64) : Prop := ∃ a b, (a = 0 ∨ a = 1) ∧ (b = 0 ∨ b = 1) ∧ vs = [b, a]
/-- signs that join two values -/
theorem zop {x y : Int32} (h : (x = Int32.ofInt 10 ∧ y = Int32.ofInt 2) ∨ (x = Int32.ofInt 11 ∧ y = Int32.ofInt 3) ∨ (x = Int32.ofInt 12 ∧ y = Int32.ofInt 4) ∨ (x = Int32.ofInt 13 ∧ y = Int32.ofInt 5) ∨ (x = Int32.ofInt 14 ∧ y = Int32.ofInt 6) ∨ (x = Int32.ofInt 15 ∧ y = Int32.ofInt 7) ∨ (x = Int32.ofInt 16 ∧ y = Int32.ofInt 8) ∨ (x = Int32.ofInt 17 ∧ y = Int32.ofInt 9) ∨ (x = Int32.ofInt 18 ∧ y = Int32.ofInt 10) ∨ (x = Int32.ofInt 19 ∧ y = Int32.ofInt 12) ∨ (x = Int32.ofInt 20 ∧ y = Int32.ofInt 13)) :
    (x ≠ Int32.ofInt 22 ∧ x ≠ Int32.ofInt 23) ∧ zwk y ∧ ¬ zpu x ∧ ∀ w (a b : Int64) st, zcs w x (b :: a :: st) = some (x44 x a b :: st) ∧ zrs w y (b :: a :: st) = some (x44 x a b :: st) := by
  rcases h with ⟨rfl, rfl⟩ | ⟨rfl, rfl⟩ | ⟨rfl, rfl⟩ | ⟨rfl, rfl⟩ | ⟨rfl, rfl⟩ | ⟨rfl, rfl⟩ | ⟨rfl, rfl⟩ | ⟨rfl, rfl⟩ | ⟨rfl, rfl⟩ | ⟨rfl, rfl⟩ | ⟨rfl, rfl⟩ <;>
    exact ⟨by decide, (fun c => absurd c (by decide)), by decide, fun w a b st => ⟨rfl, rfl⟩⟩
theorem zbool {x : Int32} {a b : Int64} (h : x = Int32.ofInt 14 ∨ x = Int32.ofInt 15 ∨ x = Int32.ofInt 16 ∨ x = Int32.ofInt 17 ∨ x = Int32.ofInt 18) : x44 x a b = 0 ∨ x44 x a b = 1 := by
  rcases h with rfl | rfl | rfl | rfl | rfl
  · show (if 0 ≤ lg_cmp a b then (0 : Int64) else 1) = 0 ∨ (if 0 ≤ lg_cmp a b then (0 : Int64) else 1) = 1
    split
    · exact Or.inl rfl
    · exact Or.inr rfl
  · show (if 0 < lg_cmp a b then (0 : Int64) else 1) = 0 ∨ (if 0 < lg_cmp a b then (0 : Int64) else 1) = 1
    split
    · exact Or.inl rfl
    · exact Or.inr rfl
  · show (if lg_cmp a b = 0 then (1 : Int64) else 0) = 0 ∨ (if lg_cmp a b = 0 then (1 : Int64) else 0) = 1
    split
    · exact Or.inr rfl
    · exact Or.inl rfl
  · show (if lg_cmp a b < 0 then (0 : Int64) else 1) = 0 ∨ (if lg_cmp a b < 0 then (0 : Int64) else 1) = 1
    split
    · exact Or.inl rfl
    · exact Or.inr rfl
  · show (if lg_cmp a b ≤ 0 then (0 : Int64) else 1) = 0 ∨ (if lg_cmp a b ≤ 0 then (0 : Int64) else 1) = 1
    split
    · exact Or.inl rfl
    · exact Or.inr rfl
theorem zbool2 {x : Int32} {a b : Int64} (h : x = Int32.ofInt 19 ∨ x = Int32.ofInt 20) (ha : a = 0 ∨ a = 1) (hb : b = 0 ∨ b = 1) : x44 x a b = 0 ∨ x44 x a b = 1 := by
  rcases h with rfl | rfl <;> rcases ha with rfl | rfl <;> rcases hb with rfl | rfl <;> decide
/-- a value -/
theorem zJ_val {f : Nat → Int32} {t : Nat} {z z1 : lb_Z} (h : lb_val f t z (.inr z1)) (h4 : z.2.2.1.1 < 400) : zJ z.2.2 z1.2.2 1 z1v ∧ z1.2.1 = z.2.1 + 1 ∧ z1.2.2.1.1 = z.2.2.1.1 + 1 ∧ z1.2.1 ≤ 60 := by
  rcases h with ⟨_, h⟩ | ⟨_, _, _, h⟩ | ⟨_, d5, m, h⟩ | ⟨_, _, h⟩ | ⟨_, w, hw, _, _, h⟩
  · cases h
  · cases h
  · cases h
    refine ⟨?_, rfl, by rw [zem h4], by dsimp only; omega⟩
    have b := lb_v_in (f := f) (t := t) (p := z.1) d5
    generalize lb_v f z.1 (lb_d f t z.1) = v at *
    rw [show (Int32.ofInt 0).toInt = 0 from by decide, show (Int32.ofInt 99999).toInt = 99999 from by decide] at b
    have tv := z_tn b.1
    have ev : v = Int32.ofNat v.toNatClampNeg := by
      apply Int32.toInt_inj.mp
      have q : (Int32.ofNat v.toNatClampNeg).toInt = v.toNatClampNeg := nI_toInt (by omega)
      omega
    have e1 : (Int32.ofInt 100 + v).toInt = 100 + v.toInt := by
      rw [Int32.toInt_add, show (Int32.ofInt 100).toInt = 100 from by decide, Int.bmod_eq_of_le (by omega) (by omega)]
    have n1 : ¬ Int32.ofInt 100 + v < Int32.ofInt 100 := fun c => by
      have c := Int32.lt_iff_toInt_lt.mp c
      rw [e1, show (Int32.ofInt 100).toInt = 100 from by decide] at c
      omega
    have e16 : Int32.ofInt 0 + Int32.ofInt 16 * v = Int32.ofNat (16 * v.toNatClampNeg) := by
      apply Int32.toInt_inj.mp
      have q : (Int32.ofNat (16 * v.toNatClampNeg)).toInt = (16 * v.toNatClampNeg : Nat) := nI_toInt (by omega)
      rw [q, show Int32.ofInt 0 + Int32.ofInt 16 * v = Int32.ofInt 16 * v from Int32.zero_add _, Int32.toInt_mul, show (Int32.ofInt 16).toInt = 16 from by decide, Int.bmod_eq_of_le (by omega) (by omega)]
      omega
    have em : (16 * v.toNatClampNeg) % 16 = 0 := by omega
    have ed : (16 * v.toNatClampNeg) / 16 = v.toNatClampNeg := by omega
    have z := zJ_1 (x := Int32.ofInt 100 + v) (y := Int32.ofInt 0 + Int32.ofInt 16 * v) (B' := z1v) (zJ_r (e := z.2.2)) h4 ⟨fun c => by
        have c := congrArg Int32.toInt c
        rw [e1, show (Int32.ofInt 22).toInt = 22 from by decide] at c
        omega, fun c => by
        have c := congrArg Int32.toInt c
        rw [e1, show (Int32.ofInt 23).toInt = 23 from by decide] at c
        omega⟩ (fun c => by
        rw [e16, zb_15 (by omega), em] at c
        exact absurd c (by decide)) (fun w vs hv => ⟨[v.toInt64], ⟨_, rfl⟩, fun st => by
        subst hv
        refine ⟨?_, ?_⟩
        · unfold zcs
          rw [if_neg n1, show Int32.ofInt 100 + v - Int32.ofInt 100 = v from by grind]
          rfl
        · unfold zrs
          rw [e16, zb_15 (by omega), zb_4 (by omega), em, ed, if_pos (show Int32.ofNat 0 = 0 from rfl), ← ev]
          rfl⟩)
    refine zJ_w z ?_ (fun _ h => h)
    split <;> omega
  · cases h
  · rcases h with ⟨_, h⟩ | ⟨m, h⟩
    · cases h
    · have e := Sum.inr.inj h
      subst e
      refine ⟨?_, rfl, by rw [zem h4], by dsimp only; omega⟩
      have key : ∀ w, w < 10 → (nI w ≠ Int32.ofInt 22 ∧ nI w ≠ Int32.ofInt 23) ∧ nI w < Int32.ofInt 100 ∧ ¬ nI w < 0 ∧ ¬ Int32.ofInt 10 ≤ nI w ∧ (nI w).toNatClampNeg = w ∧ ((Int32.ofInt 1 + Int32.ofInt 16 * nI w) &&& Int32.ofInt 15) = Int32.ofInt 1 ∧ ((Int32.ofInt 1 + Int32.ofInt 16 * nI w) >>> (Int32.ofInt 4 &&& 31)).toNatClampNeg = w := by decide
      obtain ⟨k1, k2, k3, k4, k5, k6, k7⟩ := key w hw
      have z := zJ_1 (x := nI w) (y := Int32.ofInt 1 + Int32.ofInt 16 * nI w) (B' := z1v) (zJ_r (e := z.2.2)) h4 k1 (fun _ => by rw [k7]; exact hw) (fun u vs hv => ⟨[u w], ⟨_, rfl⟩, fun st => by
        subst hv
        refine ⟨?_, ?_⟩
        · unfold zcs
          rw [if_pos k2, if_neg k3, if_neg k4, k5]
          rfl
        · unfold zrs
          rw [k6, k7, if_neg (by decide), if_pos rfl]
          rfl⟩)
      refine zJ_w z ?_ (fun _ h => h)
      split <;> omega
end
section
/-! sums, facts, tests: the same code -/
theorem zJ_jn {e e1 : lb_E} {x y : Int32} {k : Nat} {B B' : List Int64 → Prop} (h : zJ e e1 k B) (h4 : e1.1.1 < 400) (ho : (x ≠ Int32.ofInt 22 ∧ x ≠ Int32.ofInt 23) ∧ zwk y ∧ ¬ zpu x ∧ ∀ w (a b : Int64) st, zcs w x (b :: a :: st) = some (x44 x a b :: st) ∧ zrs w y (b :: a :: st) = some (x44 x a b :: st)) (hB : ∀ vs, B vs → ∃ a b r, vs = b :: a :: r ∧ B' (x44 x a b :: r)) : zJ e (lb_em e1 x y) k B' := by
  have z := zJ_1 (B' := B') h h4 ho.1 ho.2.1 (fun w vs hb => by
    obtain ⟨a, b, r, e, q⟩ := hB vs hb
    subst e
    exact ⟨_, q, fun st => ho.2.2.2 w a b (r ++ st)⟩)
  rw [if_neg ho.2.2.1] at z
  exact z
theorem zsr_op {w : Int32} (h : w = Int32.ofInt 10 ∨ w = Int32.ofInt 11 ∨ w = Int32.ofInt 12 ∨ w = Int32.ofInt 13) : (w ≠ Int32.ofInt 22 ∧ w ≠ Int32.ofInt 23) ∧ zwk (w - Int32.ofInt 8) ∧ ¬ zpu w ∧ ∀ u (a b : Int64) st, zcs u w (b :: a :: st) = some (x44 w a b :: st) ∧ zrs u (w - Int32.ofInt 8) (b :: a :: st) = some (x44 w a b :: st) := by
  apply zop
  rcases h with rfl | rfl | rfl | rfl
  · exact Or.inl ⟨rfl, by decide⟩
  · exact Or.inr (Or.inl ⟨rfl, by decide⟩)
  · exact Or.inr (Or.inr (Or.inl ⟨rfl, by decide⟩))
  · exact Or.inr (Or.inr (Or.inr (Or.inl ⟨rfl, by decide⟩)))
theorem zew {e : lb_E} {w : Int32} (h : w = Int32.ofInt 10 ∨ w = Int32.ofInt 11 ∨ w = Int32.ofInt 12 ∨ w = Int32.ofInt 13) : lb_ew e w = lb_em e w (w - Int32.ofInt 8) := by
  unfold lb_ew
  rw [if_neg]
  rcases h with rfl | rfl | rfl | rfl <;> decide
theorem zeml {e : lb_E} {x y : Int32} (h : e.1.1 < 400) : (lb_em e x y).1.1 = e.1.1 + 1 := by rw [zem h]
theorem zJ_sr {f : Nat → Int32} {t : Nat} (ht : t ≤ 400) : ∀ (k : Nat) (w : Int32) (z z' : lb_Z) (e0 : lb_E) (k0 : Nat), z.1 ≤ t → z.2.1 ≤ 60 → ((w = Int32.ofInt (-1) ∧ zJ e0 z.2.2 k0 z1v ∧ z.2.2.1.1 ≤ z.1) ∨ ((w = Int32.ofInt 10 ∨ w = Int32.ofInt 11) ∧ zJ e0 z.2.2 k0 z2v ∧ z.2.2.1.1 + 1 ≤ z.1)) → lb_sr f t k w z (.inr z') → zJ e0 z'.2.2 (k0 + (z'.2.1 - z.2.1)) z1v ∧ z.2.1 ≤ z'.2.1 ∧ z'.2.1 ≤ 60 ∧ z'.2.2.1.1 + z.1 ≤ z'.1 + z.2.2.1.1 + (if w = Int32.ofInt (-1) then 0 else 1) := by
  intro k
  induction k with
  | zero => intro w z z' e0 k0 _ _ _ h; exact h.elim
  | succ k ih =>
    intro w z z' e0 k0 hz hm hw h
    rcases h with ⟨_, h⟩ | ⟨ho, r1, hv, h⟩ | ⟨ho, r1, hv, h⟩
    · have e := Sum.inr.inj h
      subst e
      dsimp only
      rcases hw with ⟨w1, hJ, hl⟩ | ⟨w1, hJ, hl⟩
      · have e : lb_ew z.2.2 w = z.2.2 := by unfold lb_ew; rw [if_pos w1]
        rw [e, if_pos w1]
        exact ⟨zJ_w hJ (by omega) (fun _ h => h), Nat.le_refl _, hm, by omega⟩
      · have w4 : w = Int32.ofInt 10 ∨ w = Int32.ofInt 11 ∨ w = Int32.ofInt 12 ∨ w = Int32.ofInt 13 := by
          rcases w1 with h | h
          · exact Or.inl h
          · exact Or.inr (Or.inl h)
        rw [zew w4, if_neg (by rcases w1 with rfl | rfl <;> decide), zeml (by omega)]
        refine ⟨zJ_w (zJ_jn (B' := z1v) hJ (by omega) (zsr_op w4) (fun vs ⟨a, b, e⟩ => ⟨a, b, [], e, _, rfl⟩)) (by omega) (fun _ h => h), Nat.le_refl _, hm, by omega⟩
    · have w4 : lb_op (lb_g f t z.1) = Int32.ofInt 10 ∨ lb_op (lb_g f t z.1) = Int32.ofInt 11 ∨ lb_op (lb_g f t z.1) = Int32.ofInt 12 ∨ lb_op (lb_g f t z.1) = Int32.ofInt 13 := by
        rcases ho with h | h
        · exact Or.inr (Or.inr (Or.inl h))
        · exact Or.inr (Or.inr (Or.inr h))
      have hlt : z.1 < t := lb_op_lt (by rcases ho with ho | ho <;> (rw [ho]; decide))
      have hs := lb_s_le (f := f) (t := t) (t - (z.1 + 1)) (z.1 + 1) (by omega)
      rcases h with ⟨c, e1, e2⟩ | ⟨z2, e1, h⟩
      · cases e2
      subst e1
      have q := lb_val_up hs.2 hv
      have l0 : z.2.2.1.1 ≤ z.1 := by rcases hw with ⟨_, _, l⟩ | ⟨_, _, l⟩ <;> omega
      obtain ⟨vJ, vm, vl, v6⟩ := zJ_val hv (by dsimp only; omega)
      dsimp only at vJ vm vl q
      have l1 : z2.2.2.1.1 < 400 := by omega
      have lw := zeml (x := lb_op (lb_g f t z.1)) (y := lb_op (lb_g f t z.1) - Int32.ofInt 8) l1
      rw [zew w4] at h
      rcases hw with ⟨w1, hJ, hl⟩ | ⟨w1, hJ, hl⟩
      · have a := zJ_jn (B' := z1v) (zJ_t hJ vJ) l1 (zsr_op w4) (fun vs ⟨v1, v2, ⟨a, ea⟩, ⟨b, eb⟩, e⟩ => ⟨a, b, [], by rw [e, ea, eb]; rfl, _, rfl⟩)
        have g := ih w _ z' e0 (k0 + 1) (by dsimp only; omega) (by dsimp only; omega) (Or.inl ⟨w1, a, by dsimp only; omega⟩) h
        dsimp only at g
        rw [if_pos w1] at g ⊢
        exact ⟨zJ_w g.1 (by omega) (fun _ h => h), by omega, g.2.2.1, by omega⟩
      · have a := zJ_jn (B' := z2v) (zJ_t hJ vJ) l1 (zsr_op w4) (fun vs ⟨v1, v2, ⟨c, a, ea⟩, ⟨b, eb⟩, e⟩ => ⟨a, b, [c], by rw [e, ea, eb]; rfl, _, _, rfl⟩)
        have g := ih w _ z' e0 (k0 + 1) (by dsimp only; omega) (by dsimp only; omega) (Or.inr ⟨w1, a, by dsimp only; omega⟩) h
        dsimp only at g
        have wn : ¬ w = Int32.ofInt (-1) := by rcases w1 with rfl | rfl <;> decide
        rw [if_neg wn] at g ⊢
        exact ⟨zJ_w g.1 (by omega) (fun _ h => h), by omega, g.2.2.1, by omega⟩
    · have hlt : z.1 < t := lb_op_lt (by rcases ho with ho | ho <;> (rw [ho]; decide))
      have hs := lb_s_le (f := f) (t := t) (t - (z.1 + 1)) (z.1 + 1) (by omega)
      rcases h with ⟨c, e1, e2⟩ | ⟨z2, e1, h⟩
      · cases e2
      subst e1
      have q := lb_val_up hs.2 hv
      have wn2 : ¬ lb_op (lb_g f t z.1) = Int32.ofInt (-1) := by rcases ho with h | h <;> (rw [h]; decide)
      obtain ⟨e1, ee, hJ1, hl1, he1⟩ : ∃ e1, lb_ew z.2.2 w = e1 ∧ zJ e0 e1 k0 z1v ∧ e1.1.1 ≤ z.2.2.1.1 + (if w = Int32.ofInt (-1) then 0 else 1) ∧ e1.1.1 ≤ z.1 := by
        rcases hw with ⟨w1, hJ, hl⟩ | ⟨w1, hJ, hl⟩
        · have e : lb_ew z.2.2 w = z.2.2 := by unfold lb_ew; rw [if_pos w1]
          rw [e, if_pos w1]
          exact ⟨_, rfl, hJ, by omega, hl⟩
        · have w4 : w = Int32.ofInt 10 ∨ w = Int32.ofInt 11 ∨ w = Int32.ofInt 12 ∨ w = Int32.ofInt 13 := by
            rcases w1 with h | h
            · exact Or.inl h
            · exact Or.inr (Or.inl h)
          rw [zew w4, if_neg (by rcases w1 with rfl | rfl <;> decide)]
          exact ⟨_, rfl, zJ_jn (B' := z1v) hJ (by omega) (zsr_op w4) (fun vs ⟨a, b, e⟩ => ⟨a, b, [], e, _, rfl⟩), by rw [zeml (by omega)]; omega, by rw [zeml (by omega)]; omega⟩
      rw [ee] at hv
      obtain ⟨vJ, vm, vl, v6⟩ := zJ_val hv (by dsimp only; omega)
      dsimp only at vJ vm vl q
      have a := zJ_w (B' := z2v) (zJ_t hJ1 vJ) (Nat.le_refl _) (fun vs ⟨v1, v2, ⟨a, ea⟩, ⟨b, eb⟩, e⟩ => ⟨a, b, by rw [e, ea, eb]; rfl⟩)
      have g := ih _ z2 z' e0 (k0 + 1) q.2 v6 (Or.inr ⟨ho, a, by omega⟩) h
      rw [if_neg wn2] at g
      refine ⟨zJ_w g.1 (by omega) (fun _ h => h), by omega, g.2.2.1, ?_⟩
      by_cases c : w = Int32.ofInt (-1)
      · rw [if_pos c] at hl1 ⊢
        omega
      · rw [if_neg c] at hl1 ⊢
        omega
theorem zJ_sum {f : Nat → Int32} {t : Nat} {z z' : lb_Z} (ht : t ≤ 400) (hz : z.1 ≤ t) (hm : z.2.1 ≤ 60) (hl : z.2.2.1.1 ≤ z.1) (h : lb_sum f t z (.inr z')) : zJ z.2.2 z'.2.2 (z'.2.1 - z.2.1) z1v ∧ z.2.1 ≤ z'.2.1 ∧ z'.2.1 ≤ 60 ∧ z'.2.2.1.1 + z.1 ≤ z'.1 + z.2.2.1.1 ∧ z.1 < z'.1 ∧ z'.1 ≤ t := by
  have up := lb_sum_up hz h
  obtain ⟨r1, hv, h⟩ := h
  rcases h with ⟨c, e1, e2⟩ | ⟨z1, k, e1, h⟩
  · cases e2
  subst e1
  have q := lb_val_up hz hv
  obtain ⟨vJ, vm, vl, v6⟩ := zJ_val hv (by omega)
  have g := zJ_sr ht k _ z1 z' z.2.2 1 q.2 v6 (Or.inl ⟨rfl, vJ, by omega⟩) h
  rw [if_pos rfl] at g
  exact ⟨zJ_w g.1 (by omega) (fun _ h => h), by omega, g.2.2.1, by omega, up⟩
theorem zcm {f : Nat → Int32} {t p : Nat} {x : Int32} (h : lb_cm f t p x) (hx : ¬ x = Int32.ofInt (-1)) : x = Int32.ofInt 14 ∨ x = Int32.ofInt 15 ∨ x = Int32.ofInt 16 ∨ x = Int32.ofInt 17 ∨ x = Int32.ofInt 18 := by
  rcases h with ⟨_, _, h⟩ | ⟨_, _, h⟩ | ⟨_, h⟩ | ⟨_, _, h⟩ | ⟨_, _, h⟩ | ⟨_, h⟩
  · exact Or.inr (Or.inl h)
  · exact Or.inl h
  · exact Or.inr (Or.inr (Or.inl h))
  · exact Or.inr (Or.inr (Or.inr (Or.inl h)))
  · exact Or.inr (Or.inr (Or.inr (Or.inr h)))
  · exact absurd h hx
theorem zcm_op {x : Int32} (h : x = Int32.ofInt 14 ∨ x = Int32.ofInt 15 ∨ x = Int32.ofInt 16 ∨ x = Int32.ofInt 17 ∨ x = Int32.ofInt 18) : (x ≠ Int32.ofInt 22 ∧ x ≠ Int32.ofInt 23) ∧ zwk (x - Int32.ofInt 8) ∧ ¬ zpu x ∧ ∀ u (a b : Int64) st, zcs u x (b :: a :: st) = some (x44 x a b :: st) ∧ zrs u (x - Int32.ofInt 8) (b :: a :: st) = some (x44 x a b :: st) := by
  apply zop
  rcases h with rfl | rfl | rfl | rfl | rfl
  · exact Or.inr (Or.inr (Or.inr (Or.inr (Or.inl ⟨rfl, by decide⟩))))
  · exact Or.inr (Or.inr (Or.inr (Or.inr (Or.inr (Or.inl ⟨rfl, by decide⟩)))))
  · exact Or.inr (Or.inr (Or.inr (Or.inr (Or.inr (Or.inr (Or.inl ⟨rfl, by decide⟩))))))
  · exact Or.inr (Or.inr (Or.inr (Or.inr (Or.inr (Or.inr (Or.inr (Or.inl ⟨rfl, by decide⟩)))))))
  · exact Or.inr (Or.inr (Or.inr (Or.inr (Or.inr (Or.inr (Or.inr (Or.inr (Or.inl ⟨rfl, by decide⟩))))))))
theorem zJ_fa {f : Nat → Int32} {t : Nat} {z z' : lb_Z} (ht : t ≤ 400) (hz : z.1 ≤ t) (hm : z.2.1 ≤ 60) (hl : z.2.2.1.1 ≤ z.1) (h : lb_fa f t z (.inr z')) : zJ z.2.2 z'.2.2 (z'.2.1 - z.2.1) z1b ∧ z.2.1 ≤ z'.2.1 ∧ z'.2.1 ≤ 60 ∧ z'.2.2.1.1 + z.1 ≤ z'.1 + z.2.2.1.1 := by
  obtain ⟨r1, h1, h⟩ := h
  rcases h with ⟨c, e1, e2⟩ | ⟨z1, e1, x, r2, h2, h⟩
  · cases e2
  subst e1
  obtain ⟨a1, a2, a3, a4, a5, a6⟩ := zJ_sum ht hz hm hl h1
  rcases h with ⟨c, e1, e2⟩ | ⟨z2, e1, r3, h3, h⟩
  · cases e2
  subst e1
  have q2 := lb_cp_up a6 h2
  obtain ⟨hcm, hcp⟩ := h2
  rcases hcp with ⟨_, h2⟩ | ⟨_, _, h2⟩ | ⟨hx, h60, h2⟩
  · cases h2
  · cases h2
  have e := Sum.inr.inj h2
  have e21 : z2.2.1 = z1.2.1 + 1 := by rw [e]
  have e22 : z2.2.2 = z1.2.2 := by rw [e]
  rcases h with ⟨c, e1, e2⟩ | ⟨z3, e1, h⟩
  · cases e2
  subst e1
  obtain ⟨b1, b2, b3, b4, b5, b6⟩ := zJ_sum ht q2.2 (by omega) (by rw [e22]; omega) h3
  rw [e22] at b1 b4
  have e := Sum.inr.inj h
  subst e
  dsimp only
  have x5 := zcm hcm hx
  have l3 : z3.2.2.1.1 < 400 := by omega
  rw [zeml l3]
  exact ⟨zJ_w (zJ_jn (B' := z1b) (zJ_t a1 b1) l3 (zcm_op x5) (fun vs ⟨v1, v2, ⟨a, ea⟩, ⟨b, eb⟩, e⟩ => ⟨a, b, [], by rw [e, ea, eb]; rfl, _, zbool x5, rfl⟩)) (by omega) (fun _ h => h), by omega, b3, by omega⟩
theorem zand : (Int32.ofInt 19 ≠ Int32.ofInt 22 ∧ Int32.ofInt 19 ≠ Int32.ofInt 23) ∧ zwk (Int32.ofInt 12) ∧ ¬ zpu (Int32.ofInt 19) ∧ ∀ u (a b : Int64) st, zcs u (Int32.ofInt 19) (b :: a :: st) = some (x44 (Int32.ofInt 19) a b :: st) ∧ zrs u (Int32.ofInt 12) (b :: a :: st) = some (x44 (Int32.ofInt 19) a b :: st) := zop (Or.inr (Or.inr (Or.inr (Or.inr (Or.inr (Or.inr (Or.inr (Or.inr (Or.inr (Or.inl ⟨rfl, rfl⟩))))))))))
theorem zor : (Int32.ofInt 20 ≠ Int32.ofInt 22 ∧ Int32.ofInt 20 ≠ Int32.ofInt 23) ∧ zwk (Int32.ofInt 13) ∧ ¬ zpu (Int32.ofInt 20) ∧ ∀ u (a b : Int64) st, zcs u (Int32.ofInt 20) (b :: a :: st) = some (x44 (Int32.ofInt 20) a b :: st) ∧ zrs u (Int32.ofInt 13) (b :: a :: st) = some (x44 (Int32.ofInt 20) a b :: st) := zop (Or.inr (Or.inr (Or.inr (Or.inr (Or.inr (Or.inr (Or.inr (Or.inr (Or.inr (Or.inr ⟨rfl, rfl⟩))))))))))
theorem zJ_not {e e1 : lb_E} {k : Nat} (h : zJ e e1 k z1b) (h4 : e1.1.1 < 400) : zJ e (lb_em e1 (Int32.ofInt 21) (Int32.ofInt 11)) k z1b := by
  have z := zJ_1 (x := Int32.ofInt 21) (y := Int32.ofInt 11) (B' := z1b) h h4 (by decide) (fun c => absurd c (by decide)) (fun w vs ⟨v, hv, e⟩ => ⟨[Int64.ofNat 1 - v], ⟨_, by rcases hv with rfl | rfl <;> decide, rfl⟩, fun st => by subst e; exact ⟨rfl, rfl⟩⟩)
  rw [if_neg (by decide)] at z
  exact z
theorem zoe {e e1 : lb_E} {k : Nat} {w : Bool} (h : (w = false ∧ zJ e e1 k z1b) ∨ (w = true ∧ zJ e e1 k z2b ∧ e1.1.1 < 400)) : zJ e (lb_oe e1 w) k z1b ∧ (lb_oe e1 w).1.1 = e1.1.1 + (if w = true then 1 else 0) := by
  rcases h with ⟨rfl, h⟩ | ⟨rfl, h, h4⟩
  · exact ⟨h, rfl⟩
  · exact ⟨zJ_jn (B' := z1b) h h4 zor (fun vs ⟨a, b, ha, hb, e⟩ => ⟨a, b, [], e, _, zbool2 (Or.inr rfl) ha hb, rfl⟩), zeml h4⟩
/-- facts and tests -/
theorem zJ_ft {f : Nat → Int32} {t : Nat} (ht : t ≤ 400) : ∀ (k : Nat) (b : Bool) (d : Nat) (w : Bool) (z z' : lb_Z), z.1 ≤ t → z.2.1 ≤ 60 → lb_ft f t k b d w z (.inr z') →
    (b = true → z.2.2.1.1 ≤ z.1 → zJ z.2.2 z'.2.2 (z'.2.1 - z.2.1) z1b ∧ z.2.1 ≤ z'.2.1 ∧ z'.2.1 ≤ 60 ∧ z'.2.2.1.1 + z.1 ≤ z'.1 + z.2.2.1.1) ∧
    (b = false → ∀ (e0 : lb_E) (k0 : Nat), ((w = false ∧ zJ e0 z.2.2 k0 z1b ∧ z.2.2.1.1 ≤ z.1) ∨ (w = true ∧ zJ e0 z.2.2 k0 z2b ∧ z.2.2.1.1 + 1 ≤ z.1)) → zJ e0 z'.2.2 (k0 + (z'.2.1 - z.2.1)) z1b ∧ z.2.1 ≤ z'.2.1 ∧ z'.2.1 ≤ 60 ∧ z'.2.2.1.1 + z.1 ≤ z'.1 + z.2.2.1.1 + (if w = true then 1 else 0)) := by
  intro k
  induction k with
  | zero => intro b d w z z' _ _ h; exact h.elim
  | succ k ih =>
    intro b d w z z' hz hm h
    cases b with
    | true =>
      refine ⟨fun _ hl => ?_, fun c => (by cases c)⟩
      rcases h with ⟨_, _, h⟩ | ⟨h1, h2, r1, h3, h4⟩ | ⟨h1, h2, h3, r1, h4, h5⟩ | ⟨_, _, h⟩
      · cases h
      · have a := h1.1
        have b2 := lb_Wp 15 (by decide)
        have q := lb_s_le (f := f) (t := t) (t - (z.1 + (lb_W (nt_sp + 1 + 15)).length)) (z.1 + (lb_W (nt_sp + 1 + 15)).length) (by omega)
        rcases h4 with ⟨c, e1, e2⟩ | ⟨z2, e1, h⟩
        · cases e2
        subst e1
        have up := lb_ft_up _ _ _ _ _ _ q.2 h3
        obtain ⟨i1, i2, i3, i4⟩ := (ih true _ _ _ z2 q.2 (by exact hm) h3).1 rfl (by dsimp only; omega)
        dsimp only at i1 i2 i4 up
        have e := Sum.inr.inj h
        subst e
        dsimp only
        have l2 : z2.2.2.1.1 < 400 := by omega
        rw [zeml l2]
        exact ⟨zJ_not i1 l2, i2, i3, by omega⟩
      · have a := lb_g_lt (f := f) (t := t) (p := z.1) (by rw [h2]; decide)
        have q := lb_s_le (f := f) (t := t) (t - (z.1 + 1)) (z.1 + 1) (by omega)
        rcases h5 with ⟨c, e1, e2⟩ | ⟨z2, e1, r2, h6, h⟩
        · cases e2
        subst e1
        have up := lb_ft_up _ _ _ _ _ _ q.2 h4
        obtain ⟨i1, i2, i3, i4⟩ := (ih true _ _ _ z2 q.2 (by exact hm) h4).1 rfl (by dsimp only; omega)
        dsimp only at i1 i2 i4 up
        rcases h with ⟨c, e1, e2⟩ | ⟨z3, e1, h⟩
        · cases e2
        subst e1
        have up2 := lb_ft_up _ _ _ _ _ _ up.2.1 h6
        obtain ⟨j1, j2, j3, j4⟩ := (ih false _ _ z2 z3 up.2.1 i3 h6).2 rfl z.2.2 (z2.2.1 - z.2.1) (Or.inl ⟨rfl, i1, by omega⟩)
        rw [if_neg (by decide)] at j4
        rcases h with ⟨h93, h⟩ | ⟨_, h⟩
        · have e := Sum.inr.inj h
          subst e
          have a3 := lb_g_lt (f := f) (t := t) (p := z3.1) (by rw [h93]; decide)
          have q3 := lb_s_le (f := f) (t := t) (t - (z3.1 + 1)) (z3.1 + 1) (by omega)
          dsimp only
          exact ⟨zJ_w j1 (by omega) (fun _ h => h), by omega, j3, by omega⟩
        · cases h
      · exact zJ_fa ht hz hm hl h
    | false =>
      refine ⟨fun c => (by cases c), fun _ e0 k0 hw => ?_⟩
      have l0 : z.2.2.1.1 + (if w = true then 1 else 0) ≤ z.1 := by
        rcases hw with ⟨rfl, _, l⟩ | ⟨rfl, _, l⟩
        · exact l
        · exact l
      rcases h with ⟨h1, r1, h3, h4⟩ | ⟨h1, h2, r1, h3, h4⟩ | ⟨_, _, h⟩
      · have a := h1.1
        have b2 := lb_Wp 16 (by decide)
        have q := lb_s_le (f := f) (t := t) (t - (z.1 + (lb_W (nt_sp + 1 + 16)).length)) (z.1 + (lb_W (nt_sp + 1 + 16)).length) (by omega)
        rcases h4 with ⟨c, e1, e2⟩ | ⟨z2, e1, h⟩
        · cases e2
        subst e1
        have up := lb_ft_up _ _ _ _ _ _ q.2 h3
        obtain ⟨i1, i2, i3, i4⟩ := (ih true _ _ _ z2 q.2 (by exact hm) h3).1 rfl (by dsimp only; omega)
        dsimp only at i1 i2 i4 up
        have l2 : z2.2.2.1.1 < 400 := by omega
        have lw := zeml (x := Int32.ofInt 19) (y := Int32.ofInt 12) l2
        have step : (w = false ∧ zJ e0 (lb_em z2.2.2 (Int32.ofInt 19) (Int32.ofInt 12)) (k0 + (z2.2.1 - z.2.1)) z1b ∧ (lb_em z2.2.2 (Int32.ofInt 19) (Int32.ofInt 12)).1.1 ≤ z2.1) ∨ (w = true ∧ zJ e0 (lb_em z2.2.2 (Int32.ofInt 19) (Int32.ofInt 12)) (k0 + (z2.2.1 - z.2.1)) z2b ∧ (lb_em z2.2.2 (Int32.ofInt 19) (Int32.ofInt 12)).1.1 + 1 ≤ z2.1) := by
          rcases hw with ⟨w1, hJ, hl⟩ | ⟨w1, hJ, hl⟩
          · exact Or.inl ⟨w1, zJ_jn (B' := z1b) (zJ_t hJ i1) l2 zand (fun vs ⟨v1, v2, ⟨a, ha, ea⟩, ⟨b, hb, eb⟩, e⟩ => ⟨a, b, [], by rw [e, ea, eb]; rfl, _, zbool2 (Or.inl rfl) ha hb, rfl⟩), by omega⟩
          · exact Or.inr ⟨w1, zJ_jn (B' := z2b) (zJ_t hJ i1) l2 zand (fun vs ⟨v1, v2, ⟨c, a, hc, ha, ea⟩, ⟨b, hb, eb⟩, e⟩ => ⟨a, b, [c], by rw [e, ea, eb]; rfl, _, _, hc, zbool2 (Or.inl rfl) ha hb, rfl⟩), by omega⟩
        have g := (ih false _ _ _ z' (by dsimp only; omega) (by dsimp only; omega) h).2 rfl e0 (k0 + (z2.2.1 - z.2.1)) step
        dsimp only at g
        exact ⟨zJ_w g.1 (by omega) (fun _ h => h), by omega, g.2.2.1, by omega⟩
      · have a := h2.1
        have b2 := lb_Wp 17 (by decide)
        have q := lb_s_le (f := f) (t := t) (t - (z.1 + (lb_W (nt_sp + 1 + 17)).length)) (z.1 + (lb_W (nt_sp + 1 + 17)).length) (by omega)
        rcases h4 with ⟨c, e1, e2⟩ | ⟨z2, e1, h⟩
        · cases e2
        subst e1
        have oo := zoe (e := e0) (e1 := z.2.2) (k := k0) (w := w) (by
          rcases hw with ⟨w1, hJ, hl⟩ | ⟨w1, hJ, hl⟩
          · exact Or.inl ⟨w1, hJ⟩
          · exact Or.inr ⟨w1, hJ, by omega⟩)
        have up := lb_ft_up _ _ _ _ _ _ q.2 h3
        obtain ⟨i1, i2, i3, i4⟩ := (ih true _ _ _ z2 q.2 (by exact hm) h3).1 rfl (by dsimp only; rw [oo.2]; omega)
        dsimp only at i1 i2 i4 up
        rw [oo.2] at i4
        have g := (ih false _ _ z2 z' up.2.1 i3 h).2 rfl e0 (k0 + (z2.2.1 - z.2.1)) (Or.inr ⟨rfl, zJ_w (B' := z2b) (zJ_t oo.1 i1) (Nat.le_refl _) (fun vs ⟨v1, v2, ⟨a, ha, ea⟩, ⟨b, hb, eb⟩, e⟩ => ⟨a, b, ha, hb, by rw [e, ea, eb]; rfl⟩), by omega⟩)
        rw [if_pos rfl] at g
        exact ⟨zJ_w g.1 (by omega) (fun _ h => h), by omega, g.2.2.1, by omega⟩
      · have e := Sum.inr.inj h
        subst e
        dsimp only
        have oo := zoe (e := e0) (e1 := z.2.2) (k := k0) (w := w) (by
          rcases hw with ⟨w1, hJ, hl⟩ | ⟨w1, hJ, hl⟩
          · exact Or.inl ⟨w1, hJ⟩
          · exact Or.inr ⟨w1, hJ, by omega⟩)
        rw [oo.2]
        exact ⟨zJ_w oo.1 (by omega) (fun _ h => h), Nat.le_refl _, hm, by omega⟩
end
section
/-! a rule read by both sides is the same rule -/
theorem zLL_ag {g h g' h' : Nat → Int32} {m a n b : Nat} {B : List Int64 → Prop} (z : zLL g h m a n b B) (hg : ∀ j, j < a + m → g' j = g j) (hh : ∀ j, j < b + n → h' j = h j) : zLL g' h' m a n b B := by
  refine ⟨fun w => ?_, fun j h1 h2 => ?_, fun j h1 h2 => ?_⟩
  · obtain ⟨vs, c, d⟩ := z.1 w
    exact ⟨vs, c, fun st => by rw [zcr_ag (g := g) _ _ _ (fun j h1 h2 => hg j h2), zrr_ag (g := h) _ _ _ (fun j h1 h2 => hh j h2)]; exact d st⟩
  · rw [hg j h2]
    exact z.2.1 j h1 h2
  · rw [hh j h2]
    exact z.2.2 j h1 h2
theorem zLL_1 {g h : Nat → Int32} {m a n b : Nat} (z : zLL g h m a n b z1v) : zsg g h m a n b (fun _ => True) :=
  ⟨fun w => by obtain ⟨vs, ⟨v, e⟩, d⟩ := z.1 w; subst e; exact ⟨v, trivial, d⟩, z.2⟩
theorem zLL_b {g h : Nat → Int32} {m a n b : Nat} (z : zLL g h m a n b z1b) : zsg g h m a n b (fun v => v = 0 ∨ v = 1) :=
  ⟨fun w => by obtain ⟨vs, ⟨v, hv, e⟩, d⟩ := z.1 w; subst e; exact ⟨v, hv, d⟩, z.2⟩
def zCb (g h : Nat → Int32) (cl : Nat → Int32) (a a' L : Nat) : Prop := ∃ m1 n0 n1 : Nat, (cl 0).toInt = n0 ∧ (cl 1).toInt = n1 ∧ n0 ≤ n1 ∧ n1 ≤ L ∧ zLL g h m1 a (n1 - n0) n0 z1v ∧
  ((cl 2 < 0 ∧ g (a + m1) = Int32.ofInt 22 ∧ a' = a + m1 + 1 ∧ zpc g m1 a ≤ 60) ∨
   (∃ m2 n2 n3 : Nat, (cl 2).toInt = n2 ∧ (cl 3).toInt = n3 ∧ n2 ≤ n3 ∧ n3 ≤ L ∧ zLL g h m2 (a + m1) (n3 - n2) n2 z1b ∧ g (a + m1 + m2) = Int32.ofInt 23 ∧ a' = a + m1 + m2 + 1 ∧ zpc g m1 a + zpc g m2 (a + m1) ≤ 60))
theorem zCb_ag {g h g' h' cl cl' : Nat → Int32} {a a' L L' : Nat} (z : zCb g h cl a a' L) (hg : ∀ j, j < a' → g' j = g j) (hh : ∀ j, j < L → h' j = h j) (hc : ∀ r, r < 4 → cl' r = cl r) (hL : L ≤ L') : zCb g' h' cl' a a' L' := by
  obtain ⟨m1, n0, n1, e0, e1, l1, l2, s, q⟩ := z
  rcases q with ⟨c2, g22, ea, hp⟩ | ⟨m2, n2, n3, e2, e3, l3, l4, s2, g23, ea, hp⟩
  · refine ⟨m1, n0, n1, by rw [hc 0 (by omega)]; exact e0, by rw [hc 1 (by omega)]; exact e1, l1, by omega, zLL_ag s (fun j hj => hg j (by omega)) (fun j hj => hh j (by omega)), Or.inl ⟨by rw [hc 2 (by omega)]; exact c2, by rw [hg _ (by omega)]; exact g22, ea, ?_⟩⟩
    rw [zpc_ag (g := g) _ _ (fun j h1 h2 => hg j (by omega))]
    exact hp
  · refine ⟨m1, n0, n1, by rw [hc 0 (by omega)]; exact e0, by rw [hc 1 (by omega)]; exact e1, l1, by omega, zLL_ag s (fun j hj => hg j (by omega)) (fun j hj => hh j (by omega)), Or.inr ⟨m2, n2, n3, by rw [hc 2 (by omega)]; exact e2, by rw [hc 3 (by omega)]; exact e3, l3, by omega, zLL_ag s2 (fun j hj => hg j (by omega)) (fun j hj => hh j (by omega)), by rw [hg _ (by omega)]; exact g23, ea, ?_⟩⟩
    rw [zpc_ag (g := g) _ _ (fun j h1 h2 => hg j (by omega)), zpc_ag (g := g) _ _ (fun j h1 h2 => hg j (by omega))]
    exact hp
theorem zCb_l {g h cl : Nat → Int32} {a a' L : Nat} (z : zCb g h cl a a' L) (hL : L ≤ 400) : zCl g h cl a a' ∧ a < a' := by
  obtain ⟨m1, n0, n1, e0, e1, l1, l2, s, q⟩ := z
  rcases q with ⟨c2, g22, ea, hp⟩ | ⟨m2, n2, n3, e2, e3, l3, l4, s2, g23, ea, hp⟩
  · exact ⟨⟨m1, n0, n1, e0, e1, l1, by omega, zLL_1 s, Or.inl ⟨c2, g22, ea, hp⟩⟩, by omega⟩
  · exact ⟨⟨m1, n0, n1, e0, e1, l1, by omega, zLL_1 s, Or.inr ⟨m2, n2, n3, e2, e3, l3, by omega, zLL_b s2, g23, ea, hp⟩⟩, by omega⟩
def zIv (t x : Nat) (z : lb_Z) (cl : Nat → Int32) (cc : Nat) : Prop := (z.1 ≤ t) ∧ (z.2.1 ≤ 60) ∧ (z.2.2.1.1 ≤ z.1) ∧ (z.2.2.2.1 ≤ z.2.2.1.1) ∧ (∃ pos : Nat → Nat, pos 0 = 0 ∧ pos cc = z.2.2.1.1 ∧ (∀ i, i < cc → pos (i + 1) ≤ z.2.2.1.1 ∧ zCb z.2.2.1.2 z.2.2.2.2 (fun r => cl (48 * x + 4 * i + r)) (pos i) (pos (i + 1)) z.2.2.2.1))
theorem zIv.pl {t x : Nat} {z : lb_Z} {cl : Nat → Int32} {cc : Nat} (h_ : zIv t x z cl cc) : z.1 ≤ t := h_.1
theorem zIv.m {t x : Nat} {z : lb_Z} {cl : Nat → Int32} {cc : Nat} (h_ : zIv t x z cl cc) : z.2.1 ≤ 60 := h_.2.1
theorem zIv.l {t x : Nat} {z : lb_Z} {cl : Nat → Int32} {cc : Nat} (h_ : zIv t x z cl cc) : z.2.2.1.1 ≤ z.1 := h_.2.2.1
theorem zIv.d {t x : Nat} {z : lb_Z} {cl : Nat → Int32} {cc : Nat} (h_ : zIv t x z cl cc) : z.2.2.2.1 ≤ z.2.2.1.1 := h_.2.2.2.1
theorem zIv.p {t x : Nat} {z : lb_Z} {cl : Nat → Int32} {cc : Nat} (h_ : zIv t x z cl cc) : ∃ pos : Nat → Nat, pos 0 = 0 ∧ pos cc = z.2.2.1.1 ∧ (∀ i, i < cc → pos (i + 1) ≤ z.2.2.1.1 ∧ zCb z.2.2.1.2 z.2.2.2.2 (fun r => cl (48 * x + 4 * i + r)) (pos i) (pos (i + 1)) z.2.2.2.1) := h_.2.2.2.2
theorem zin {n : Nat} (h : n ≤ 2400) : (nI n).toInt = n := nI_toInt (by omega)
theorem zIv_1 {f : Nat → Int32} {t x : Nat} {z z1 z2 : lb_Z} {cl cl' : Nat → Int32} {cc : Nat} (ht : t ≤ 400) (hI : zIv t x z cl cc) (hat : lb_at f t (lb_W (nt_sp + 1 + 5)) z.1) (hs : lb_sum f t (lb_s f t (z.1 + (lb_W (nt_sp + 1 + 5)).length), z.2.1, z.2.2) (.inr z1)) (hi : lb_if f t z1 (.inr z2)) (hD : mg_D f t x z cl cc z2 cl') : zIv t x z2 cl' (cc + 1) := by
  have b2 := lb_Wp 5 (by decide)
  have a := hat.1
  have q := lb_s_le (f := f) (t := t) (t - (z.1 + (lb_W (nt_sp + 1 + 5)).length)) (z.1 + (lb_W (nt_sp + 1 + 5)).length) (by omega)
  obtain ⟨pl, hm, hl, hd, pos, p0, pc, hp⟩ := hI
  obtain ⟨s1, s2, s3, s4, s5, s6⟩ := zJ_sum (z := (lb_s f t (z.1 + (lb_W (nt_sp + 1 + 5)).length), z.2.1, z.2.2)) ht q.2 hm (by dsimp only; omega) hs
  dsimp only at s1 s2 s4 s5
  obtain ⟨z1', hs', _, k0, k1, k2, k3, ko⟩ := hD
  have e1 := Sum.inr.inj (lb_sum_det hs hs')
  subst e1
  have d1 := s1.d
  have l1 := s1.l1
  have l2 := s1.l2
  rcases hi with ⟨ha, k, r1, r2, h1, h2, h⟩ | ⟨ha, h⟩
  · have b3 := lb_Wp 14 (by decide)
    have a3 := ha.1
    have q3 := lb_s_le (f := f) (t := t) (t - (z1.1 + (lb_W (nt_sp + 1 + 14)).length)) (z1.1 + (lb_W (nt_sp + 1 + 14)).length) (by omega)
    rcases h with ⟨c, e1, e2⟩ | ⟨z4, e1, h⟩
    · cases e2
    subst e1
    rcases h2 with ⟨c, e1, e2⟩ | ⟨z3, e1, h2⟩
    · cases e2
    subst e1
    have up := lb_ft_up _ _ _ _ _ _ q3.2 h1
    obtain ⟨t1, t2, t3, t4⟩ := (zJ_ft ht _ true _ _ _ z3 q3.2 (by exact s3) h1).1 rfl (by dsimp only; omega)
    dsimp only at t1 t2 t4 up
    have up2 := lb_ft_up _ _ _ _ _ _ up.2.1 h2
    obtain ⟨v1, v2, v3, v4⟩ := (zJ_ft ht _ false _ _ z3 z4 up.2.1 t3 h2).2 rfl z1.2.2 _ (Or.inl ⟨rfl, t1, by omega⟩)
    rw [if_neg (by decide)] at v4
    have e := Sum.inr.inj h
    subst e
    have l4 : z4.2.2.1.1 < 400 := by omega
    have ee : lb_e z4.2.2.1 (Int32.ofInt 23) = (z4.2.2.1.1 + 1, fun j => if j = z4.2.2.1.1 then Int32.ofInt 23 else z4.2.2.1.2 j) := if_pos l4
    dsimp only at k3
    rw [if_pos ha] at k2
    have dv := v1.d
    have w1 := v1.l1
    have w2 := v1.l2
    have c1 := s1.c
    have c2 := v1.c
    refine ⟨up2.2.1, v3, ?_, ?_, fun i => if i = cc + 1 then z4.2.2.1.1 + 1 else pos i, ?_, ?_, fun i hi => ?_⟩
    · dsimp only
      rw [ee]
      dsimp only
      omega
    · dsimp only
      rw [ee]
      dsimp only
      omega
    · dsimp only
      rw [if_neg (by omega)]
      exact p0
    · dsimp only
      rw [if_pos rfl, ee]
    · dsimp only
      rw [ee]
      dsimp only
      by_cases ci : i = cc
      · subst ci
        rw [if_pos rfl, if_neg (by omega), pc]
        refine ⟨Nat.le_refl _, z1.2.2.1.1 - z.2.2.1.1, z.2.2.2.1, z1.2.2.2.1, ?_, ?_, l2, by omega, ?_, Or.inr ⟨z4.2.2.1.1 - z1.2.2.1.1, z1.2.2.2.1, z4.2.2.2.1, ?_, ?_, w2, Nat.le_refl _, ?_, ?_, by omega, ?_⟩⟩
        · show (cl' (48 * x + 4 * i)).toInt = _
          rw [k0]
          exact zin (by omega)
        · show (cl' (48 * x + 4 * i + 1)).toInt = _
          rw [k1]
          exact zin (by omega)
        · refine zLL_ag s1.s (fun j hj => ?_) (fun j hj => ?_)
          · exact (if_neg (by omega)).trans (v1.p1 j (by omega))
          · exact v1.p2 j (by omega)
        · show (cl' (48 * x + 4 * i + 2)).toInt = _
          rw [k2]
          exact zin (by omega)
        · show (cl' (48 * x + 4 * i + 3)).toInt = _
          rw [k3]
          exact zin (by omega)
        · rw [show z.2.2.1.1 + (z1.2.2.1.1 - z.2.2.1.1) = z1.2.2.1.1 from by omega]
          refine zLL_ag v1.s (fun j hj => ?_) (fun j hj => rfl)
          exact if_neg (by omega)
        · exact if_pos (by omega)
        · rw [show z.2.2.1.1 + (z1.2.2.1.1 - z.2.2.1.1) = z1.2.2.1.1 from by omega, zpc_ag (g := z1.2.2.1.2) _ _ (fun j h1 h2 => (if_neg (by omega)).trans (v1.p1 j (by omega))), zpc_ag (g := z4.2.2.1.2) _ _ (fun j h1 h2 => if_neg (by omega))]
          omega
      · have hpi := hp i (by omega)
        rw [if_neg (by omega), if_neg (by omega)]
        refine ⟨by omega, zCb_ag hpi.2 (fun j hj => ?_) (fun j hj => ?_) (fun r hr => ?_) (by omega)⟩
        · exact (if_neg (by omega)).trans ((v1.p1 j (by omega)).trans (s1.p1 j (by omega)))
        · rw [v1.p2 j (by omega)]
          exact s1.p2 j (by omega)
        · exact ko _ (by omega)
  · have e := Sum.inr.inj h
    subst e
    have l4 : z1.2.2.1.1 < 400 := by omega
    have ee : lb_e z1.2.2.1 (Int32.ofInt 22) = (z1.2.2.1.1 + 1, fun j => if j = z1.2.2.1.1 then Int32.ofInt 22 else z1.2.2.1.2 j) := if_pos l4
    dsimp only at k3
    rw [if_neg ha] at k2
    have c1 := s1.c
    refine ⟨s6, s3, ?_, ?_, fun i => if i = cc + 1 then z1.2.2.1.1 + 1 else pos i, ?_, ?_, fun i hi => ?_⟩
    · dsimp only
      rw [ee]
      dsimp only
      omega
    · dsimp only
      rw [ee]
      dsimp only
      omega
    · dsimp only
      rw [if_neg (by omega)]
      exact p0
    · dsimp only
      rw [if_pos rfl, ee]
    · dsimp only
      rw [ee]
      dsimp only
      by_cases ci : i = cc
      · subst ci
        rw [if_pos rfl, if_neg (by omega), pc]
        refine ⟨Nat.le_refl _, z1.2.2.1.1 - z.2.2.1.1, z.2.2.2.1, z1.2.2.2.1, ?_, ?_, l2, Nat.le_refl _, ?_, Or.inl ⟨?_, ?_, by omega, ?_⟩⟩
        · show (cl' (48 * x + 4 * i)).toInt = _
          rw [k0]
          exact zin (by omega)
        · show (cl' (48 * x + 4 * i + 1)).toInt = _
          rw [k1]
          exact zin (by omega)
        · refine zLL_ag s1.s (fun j hj => ?_) (fun j hj => rfl)
          exact if_neg (by omega)
        · show cl' (48 * x + 4 * i + 2) < 0
          rw [k2]
          decide
        · exact if_pos (by omega)
        · rw [zpc_ag (g := z1.2.2.1.2) _ _ (fun j h1 h2 => if_neg (by omega))]
          omega
      · have hpi := hp i (by omega)
        rw [if_neg (by omega), if_neg (by omega)]
        refine ⟨by omega, zCb_ag hpi.2 (fun j hj => ?_) (fun j hj => ?_) (fun r hr => ?_) (by omega)⟩
        · exact (if_neg (by omega)).trans (s1.p1 j (by omega))
        · exact s1.p2 j (by omega)
        · exact ko _ (by omega)
theorem zIv_k {f : Nat → Int32} {t x : Nat} (ht : t ≤ 400) : ∀ (k i : Nat) (z zf : lb_Z) (r1 : lb_Y) (cl cl1 cl' : Nat → Int32) (cc cc1 cc' : Nat), zIv t x z cl cc → lb_cs f t k i z (.inr zf) → mg_c1 f t x i z r1 cl cc cl1 cc1 → lb_th r1 (.inr zf) (fun z1 => ∃ k, mg_c2 f t x k (i + 1) z1 (.inr zf) cl1 cc1 cl' cc') → zIv t x zf cl' cc' := by
  intro k
  induction k with
  | zero => intro i z zf r1 cl cl1 cl' cc cc1 cc' _ h; exact h.elim
  | succ k ih =>
    intro i z zf r1 cl cl1 cl' cc cc1 cc' hI h h1 h2
    rcases h2 with ⟨c, _, e⟩ | ⟨z2, er, k2, h2⟩
    · cases e
    subst er
    obtain ⟨hc1, hc2⟩ := h1
    obtain ⟨ecc, hD⟩ := hc2 z2 rfl
    subst ecc
    rcases h with ⟨_, e⟩ | ⟨_, _, e⟩ | ⟨a, b, ra, hs, h⟩
    · cases e
    · cases e
    rcases h with ⟨c, _, e⟩ | ⟨z1, er, rb, hi, h⟩
    · cases e
    subst er
    rcases h with ⟨c, _, e⟩ | ⟨z2', er, h⟩
    · cases e
    subst er
    have ez : z2' = z2 := by
      rcases hc1 with ⟨a', _⟩ | ⟨_, b', _⟩ | ⟨_, _, ra', hs', hh⟩
      · exact absurd a a'
      · omega
      · have e := lb_sum_det hs hs'
        subst e
        rcases hh with ⟨c, e, _⟩ | ⟨z1', e, hh⟩
        · cases e
        · cases e
          exact Sum.inr.inj (lb_if_det hi hh)
    subst ez
    have hI1 := zIv_1 ht hI a hs hi hD
    cases k2 with
    | zero => exact h2.elim
    | succ k2 =>
      rcases h with ⟨g, h⟩ | ⟨g, h⟩ | ⟨_, _, h⟩
      · rcases h2 with ⟨g', rc, cl2, cc2, h3, h2⟩ | ⟨g', _⟩ | ⟨g', _, _⟩
        · have hlt := lb_g_lt (f := f) (t := t) (p := z2'.1) (by rw [g]; decide)
          have q := lb_s_le (f := f) (t := t) (t - (z2'.1 + 1)) (z2'.1 + 1) (by omega)
          have pl := hI1.l
          exact ih (i + 1) (lb_s f t (z2'.1 + 1), z2'.2.1, z2'.2.2) zf rc cl1 cl2 cl' (cc + 1) cc2 cc' ⟨q.2, hI1.m, by dsimp only; omega, hI1.d, hI1.p⟩ h h3 (lb_th_up (fun z1 q => ⟨k2, q⟩) h2)
        · rw [g] at g'
          exact absurd g' (by decide)
        · exact absurd g g'
      · have e := Sum.inr.inj h
        subst e
        rcases h2 with ⟨g', _⟩ | ⟨_, _, e1, e2⟩ | ⟨_, g', _⟩
        · rw [g] at g'
          exact absurd g' (by decide)
        · subst e1
          subst e2
          exact hI1
        · exact absurd g g'
      · cases h
end
section
/-! days: both sides -/
theorem zdays_l {p : Nat → Nat} {v1 v2 : Int32} {sp ln T : Nat} (hsq : ∀ i, i < 17 → sp ≠ p (31 + i)) (ht : v1.toInt = (T : Nat)) (X : zX p (fun i => p (31 + i))) : ∀ (c : Nat) (i : Int32) (Jc Jr : Nat → Nat → Int32) (Lc Lr : Nat → Nat → Int64), 0 ≤ i.toInt → v2.toInt - i.toInt ≤ c → (Jr (p 4) 4).toInt + (v2.toInt - i.toInt) ≤ 200 → i.toInt ≤ v2.toInt → zR (fun i => p (31 + i)) Jc (Jr (p 4)) → zW (Jr (p 4)) (Jr (p 4) 4).toInt → zRQ p sp ln T Jc Jr → (x110_48 p sp ln v1 v2 c i Jc Lc).1 = (x186_38 p v1 v2 c i Jr Lr).1 ∧ zR (fun i => p (31 + i)) (x110_48 p sp ln v1 v2 c i Jc Lc).2.1 ((x186_38 p v1 v2 c i Jr Lr).2.1 (p 4)) ∧ zW ((x186_38 p v1 v2 c i Jr Lr).2.1 (p 4)) ((x186_38 p v1 v2 c i Jr Lr).2.1 (p 4) 4).toInt ∧ ((x186_38 p v1 v2 c i Jr Lr).2.1 (p 4) 4).toInt ≤ 200 ∧ zKp p (fun i => p (31 + i)) sp Jc Jr (x110_48 p sp ln v1 v2 c i Jc Lc).2.1 (x186_38 p v1 v2 c i Jr Lr).2.1 := by
  intro c
  induction c with
  | zero =>
    intro i Jc Jr Lc Lr i0 hc h2 hi hR hW hQ
    exact ⟨zR_4 hR, hR, hW, by show (Jr (p 4) 4).toInt ≤ 200; omega, zKp_r⟩
  | succ c ih =>
    intro i Jc Jr Lc Lr i0 hc h2 hi hR hW hQ
    rw [x110_48, x186_38]
    by_cases h1 : v2 ≤ i
    · rw [if_pos h1, if_pos h1]
      exact ⟨zR_4 hR, hR, hW, by show (Jr (p 4) 4).toInt ≤ 200; omega, zKp_r⟩
    · rw [if_neg h1, if_neg h1]
      have lt := z_lt h1
      have z := zpass (Lc := Lc) (Lr := Lr) hsq ht hQ X hR hW (by omega)
      have e4 := z.2.2.2
      have g := ih (i + Int32.ofInt 1) _ _ (x1 p (fun i => p (31 + i)) sp ln Jc Lc).2 (x190 p v1 Jr Lr).2 (zi_i h1 i0) (lx_dec h1 hc) (by rw [e4, lx_inc h1]; omega) (by rw [lx_inc h1]; omega) z.1 z.2.1 (zKp_Q X hsq z.2.2.1 hQ)
      exact ⟨g.1, g.2.1, g.2.2.1, g.2.2.2.1, zKp_t z.2.2.1 g.2.2.2.2⟩
theorem zdaysN_l {p : Nat → Nat} {v1 v2 : Int32} (X : zX p (fun i => p (31 + i))) : ∀ (c : Nat) (i : Int32) (Jc Jr : Nat → Nat → Int32) (Lr : Nat → Nat → Int64), 0 ≤ i.toInt → v2.toInt - i.toInt ≤ c → (Jr (p 4) 4).toInt + (v2.toInt - i.toInt) ≤ 200 → i.toInt ≤ v2.toInt → zR (fun i => p (31 + i)) Jc (Jr (p 4)) → zW (Jr (p 4)) (Jr (p 4) 4).toInt → (x110N_48 p v1 v2 c i Jc).1 = (x186_38 p (Int32.ofInt (-1)) v2 c i Jr Lr).1 ∧ zR (fun i => p (31 + i)) (x110N_48 p v1 v2 c i Jc).2 ((x186_38 p (Int32.ofInt (-1)) v2 c i Jr Lr).2.1 (p 4)) ∧ zW ((x186_38 p (Int32.ofInt (-1)) v2 c i Jr Lr).2.1 (p 4)) ((x186_38 p (Int32.ofInt (-1)) v2 c i Jr Lr).2.1 (p 4) 4).toInt ∧ ((x186_38 p (Int32.ofInt (-1)) v2 c i Jr Lr).2.1 (p 4) 4).toInt ≤ 200 ∧ zKp p (fun i => p (31 + i)) 0 Jc Jr (x110N_48 p v1 v2 c i Jc).2 (x186_38 p (Int32.ofInt (-1)) v2 c i Jr Lr).2.1 := by
  intro c
  induction c with
  | zero =>
    intro i Jc Jr Lr i0 hc h2 hi hR hW
    exact ⟨zR_4 hR, hR, hW, by show (Jr (p 4) 4).toInt ≤ 200; omega, zKp_r⟩
  | succ c ih =>
    intro i Jc Jr Lr i0 hc h2 hi hR hW
    rw [x110N_48, x186_38]
    by_cases h1 : v2 ≤ i
    · rw [if_pos h1, if_pos h1]
      exact ⟨zR_4 hR, hR, hW, by show (Jr (p 4) 4).toInt ≤ 200; omega, zKp_r⟩
    · rw [if_neg h1, if_neg h1]
      have lt := z_lt h1
      have z := zpassN (Lr := Lr) X hR hW (by omega)
      have e4 := z.2.2.2
      have g := ih (i + Int32.ofInt 1) _ _ (x190 p (Int32.ofInt (-1)) Jr Lr).2 (zi_i h1 i0) (lx_dec h1 hc) (by rw [e4, lx_inc h1]; omega) (by rw [lx_inc h1]; omega) z.1 z.2.1
      exact ⟨g.1, g.2.1, g.2.2.1, g.2.2.2.1, zKp_t z.2.2.1 g.2.2.2.2⟩
end
section
/-! plank, voyage, move, count, seed: both sides -/
theorem z_lgl {x y : Int64} : lg_cmp x y < 0 ↔ x.toInt < y.toInt := by
  unfold lg_cmp
  by_cases h : x > y
  · rw [if_pos h]
    have h : y.toInt < x.toInt := Int64.lt_iff_toInt_lt.mp h
    exact ⟨fun c => absurd c (by decide), fun c => by omega⟩
  · rw [if_neg h]
    have h : ¬ y.toInt < x.toInt := fun c => h (Int64.lt_iff_toInt_lt.mpr c)
    by_cases e : x = y
    · rw [if_pos e, e]
      exact ⟨fun c => absurd c (by decide), fun c => by omega⟩
    · rw [if_neg e]
      have : x.toInt ≠ y.toInt := fun c => e (Int64.toInt_inj.mp c)
      exact ⟨fun _ => by omega, fun _ => by decide⟩
theorem z_lgg {x y : Int64} : 0 < lg_cmp x y ↔ y.toInt < x.toInt := by
  unfold lg_cmp
  by_cases h : x > y
  · rw [if_pos h]
    exact ⟨fun _ => Int64.lt_iff_toInt_lt.mp h, fun _ => by decide⟩
  · rw [if_neg h]
    have h : ¬ y.toInt < x.toInt := fun c => h (Int64.lt_iff_toInt_lt.mpr c)
    split
    · exact ⟨fun c => absurd c (by decide), fun c => absurd c h⟩
    · exact ⟨fun c => absurd c (by decide), fun c => absurd c h⟩
theorem z_145 {v : Int32} {a b : Int64} : x145 v.toInt64 a b = if v.toInt < a.toInt ∨ b.toInt < v.toInt then Int32.ofInt 0 else Int32.ofInt 1 := by
  unfold x145
  have e : v.toInt64.toInt = v.toInt := Int32.toInt_toInt64 v
  by_cases h1 : v.toInt < a.toInt
  · rw [if_pos (z_lgl.mpr (by rw [e]; exact h1)), if_pos (Or.inl h1)]
  · rw [if_neg (fun c => h1 (by rw [← e]; exact z_lgl.mp c))]
    by_cases h2 : b.toInt < v.toInt
    · rw [if_pos (z_lgg.mpr (by rw [e]; exact h2)), if_pos (Or.inr h2)]
    · rw [if_neg (fun c => h2 (by rw [← e]; exact z_lgg.mp c)), if_neg (fun c => by rcases c with c | c; exact h1 c; exact h2 c)]
theorem z_cs5 {v : Int32} (h : ¬ (v.toInt < 0 ∨ 4 < v.toInt)) : v = Int32.ofInt 0 ∨ v = Int32.ofInt 1 ∨ v = Int32.ofInt 2 ∨ v = Int32.ofInt 3 ∨ v = Int32.ofInt 4 := by
  have k : ∀ n : Nat, n < 1000 → v.toInt = n → v = Int32.ofInt (n : Int) := fun n hn e => (zi_n hn).mpr e
  rcases (by omega : v.toInt = 0 ∨ v.toInt = 1 ∨ v.toInt = 2 ∨ v.toInt = 3 ∨ v.toInt = 4) with e | e | e | e | e
  · exact Or.inl (k 0 (by omega) e)
  · exact Or.inr (Or.inl (k 1 (by omega) e))
  · exact Or.inr (Or.inr (Or.inl (k 2 (by omega) e)))
  · exact Or.inr (Or.inr (Or.inr (Or.inl (k 3 (by omega) e))))
  · exact Or.inr (Or.inr (Or.inr (Or.inr (k 4 (by omega) e))))
theorem zq_107 {p : Nat → Nat} {Jc Jr : Nat → Nat → Int32} {v1 v2 : Int32} {b : Int} (hR : zR (fun i => p (31 + i)) Jc (Jr (p 4))) (hW : zW (Jr (p 4)) b) : x107 p v1 v2 Jc = x176 p v1 v2 Jr := by
  unfold x107 x176 x70 x177
  rw [show Jc ((fun i => p (31 + i)) 1) 2 = Jr (p 4) 2 from zR_n hR (by omega), z_145]
  by_cases h0 : v1 < 0
  · rw [if_pos h0, if_pos (show Int32.ofInt 0 = 0 from rfl), if_pos (show Int32.ofInt 0 = 0 from rfl)]
  · rw [if_neg h0]
    by_cases h1 : Jr (p 4) 2 ≤ v1
    · rw [if_pos h1, if_pos (show Int32.ofInt 0 = 0 from rfl), if_pos (show Int32.ofInt 0 = 0 from rfl)]
    · rw [if_neg h1, if_neg (show ¬ Int32.ofInt 1 = 0 from by decide), if_neg (show ¬ Int32.ofInt 1 = 0 from by decide)]
      have n0 : 0 ≤ v1.toInt := by
        have : ¬ v1.toInt < 0 := fun c => h0 (z_le0.mpr c)
        omega
      obtain ⟨hn, hi, c0, c1, c2, c3, c4, r0, r1, r2, r3, r4⟩ := zP hR hW.w n0 h1
      rw [show (Int64.ofNat 0).toInt = 0 from by decide, show (4 : Int64).toInt = 4 from by decide]
      by_cases h2 : v2.toInt < 0 ∨ 4 < v2.toInt
      · rw [if_pos h2, if_pos h2, if_pos (show Int32.ofInt 0 = 0 from rfl)]
      · rw [if_neg h2, if_neg h2, if_neg (show ¬ Int32.ofInt 1 = 0 from by decide)]
        rcases z_cs5 h2 with rfl | rfl | rfl | rfl | rfl
        · rw [if_pos rfl, r0]
          exact c0
        · rw [if_neg (by decide), if_pos rfl, r1]
          exact c1
        · rw [if_neg (by decide), if_neg (by decide), if_pos rfl, r2]
          exact c2
        · rw [if_neg (by decide), if_neg (by decide), if_neg (by decide), if_pos rfl, r3]
          exact c3
        · rw [if_neg (by decide), if_neg (by decide), if_neg (by decide), if_neg (by decide), r4, show Jc (p 46) v1.toNatClampNeg = Jr (p 4) (52 + 5 * v1.toNatClampNeg + 4) from c4, hW.b.lo _ hn]
          split <;> rfl
theorem zq_108 {p : Nat → Nat} {Jc Jr : Nat → Nat → Int32} {v1 v2 : Int32} {b : Int} (hR : zR (fun i => p (31 + i)) Jc (Jr (p 4))) (hW : zW (Jr (p 4)) b) : x108 p v1 v2 Jc = x178 p v1 v2 Jr := by
  unfold x108 x178 x71 x179
  rw [show Jc ((fun i => p (31 + i)) 1) 3 = Jr (p 4) 3 from zR_n hR (by omega), z_145]
  by_cases h0 : v1 < 0
  · rw [if_pos h0, if_pos (show Int32.ofInt 0 = 0 from rfl), if_pos (show Int32.ofInt 0 = 0 from rfl)]
  · rw [if_neg h0]
    by_cases h1 : Jr (p 4) 3 ≤ v1
    · rw [if_pos h1, if_pos (show Int32.ofInt 0 = 0 from rfl), if_pos (show Int32.ofInt 0 = 0 from rfl)]
    · rw [if_neg h1, if_neg (show ¬ Int32.ofInt 1 = 0 from by decide), if_neg (show ¬ Int32.ofInt 1 = 0 from by decide)]
      have n0 : 0 ≤ v1.toInt := by
        have : ¬ v1.toInt < 0 := fun c => h0 (z_le0.mpr c)
        omega
      obtain ⟨hn, hi, c0, c1, c2, c3, c4, r0, r1, r2, r3, r4⟩ := zV hR hW.w n0 h1
      rw [show (Int64.ofNat 0).toInt = 0 from by decide, show (4 : Int64).toInt = 4 from by decide]
      by_cases h2 : v2.toInt < 0 ∨ 4 < v2.toInt
      · rw [if_pos h2, if_pos h2, if_pos (show Int32.ofInt 0 = 0 from rfl)]
      · rw [if_neg h2, if_neg h2, if_neg (show ¬ Int32.ofInt 1 = 0 from by decide)]
        rcases z_cs5 h2 with rfl | rfl | rfl | rfl | rfl
        · rw [if_pos rfl, r0]
          exact c0
        · rw [if_neg (by decide), if_pos rfl, r1]
          exact c1
        · rw [if_neg (by decide), if_neg (by decide), if_pos rfl, r2]
          exact c2
        · rw [if_neg (by decide), if_neg (by decide), if_neg (by decide), if_pos rfl, r3]
          exact c3
        · rw [if_neg (by decide), if_neg (by decide), if_neg (by decide), if_neg (by decide), r4]
          exact c4
theorem zq_233 {p : Nat → Nat} {J : Nat → Nat → Int32} : ∀ (c : Nat) (a i : Int32), x233_108 p J c a i = x170_4 p (Int32.ofInt (-1)) J c a i := by
  intro c
  induction c with
  | zero => intro a i; rfl
  | succ c ih =>
    intro a i
    rw [x233_108, x170_4, ih, ih]
/-- hands left -/
theorem zq_72 {q p : Nat → Nat} {Jc Jr : Nat → Nat → Int32} (hR : zR q Jc (Jr (p 4))) (hz : Jr (p 4) 0 = 0 → Jr (p 4) 5 = Jr (p 4) 6) : x72 q Jc = Jr (p 4) 5 - Jr (p 4) 6 := by
  unfold x72
  rw [hR.2]
  by_cases h : Jr (p 4) 0 = 0
  · rw [if_pos h, if_pos rfl, hz h]
    grind
  · rw [if_neg h, if_neg (by decide), zR_5 hR, zR_6 hR]
theorem zq_126 {p : Nat → Nat} {Jc Jr : Nat → Nat → Int32} {v1 : Int32} {b : Int} (hR : zR (fun i => p (31 + i)) Jc (Jr (p 4))) (hW : zW (Jr (p 4)) b) (hz : Jr (p 4) 0 = 0 → Jr (p 4) 5 = Jr (p 4) 6) (h4 : Jc (p 16) 4 = Jr (p 0) 2) (h1 : Jc (p 17) 1 = Jr (p 0) 1) (h9 : Jc (p 31) 6 = Jr (p 4) 9) : x126 p v1 Jc = x233 p v1 Jr := by
  unfold x126 x233
  have e66 : x66 (fun i => p (31 + i)) (Int32.ofInt (-1)) Jc = x170 p (Int32.ofInt (-1)) Jr := zq_66 hR hW.w (zl_of hW (fun c => by rw [xi_m1] at c; omega))
  have n : ∀ i, i < 4 → Jc (p 32) i = Jr (p 4) i := fun i hi => zR_n hR hi
  rw [n 0 (by omega), n 1 (by omega), n 2 (by omega), n 3 (by omega), h4, h1, zq_72 hR hz, e66, show Jc (p 31) 2 = Jr (p 4) 4 from zR_4 hR, show Jc (p 31) 5 = Jr (p 4) 7 from zR_7 hR, show Jc (p 31) 4 = Jr (p 4) 8 from zR_8 hR, h9, zq_233]
  by_cases h : v1.toInt < 0 ∨ 11 < v1.toInt
  · rw [if_pos h, if_pos h]
  · rw [if_neg h, if_neg h]
    by_cases c0 : v1 = Int32.ofInt 0
    · subst c0
      rfl
    · rw [if_neg c0, if_neg c0]
      by_cases c1 : v1 = Int32.ofInt 1
      · subst c1
        rfl
      · rw [if_neg c1, if_neg c1]
        by_cases c2 : v1 = Int32.ofInt 2
        · subst c2
          rfl
        · rw [if_neg c2, if_neg c2]
          by_cases c3 : v1 = Int32.ofInt 3
          · subst c3
            rfl
          · rw [if_neg c3, if_neg c3]
            rfl
/-- seed -/
theorem zq_124 {p : Nat → Nat} {Jc Jr : Nat → Nat → Int32} {v1 : Int32} {b : Int} (X : zX p (fun i => p (31 + i))) (hR : zR (fun i => p (31 + i)) Jc (Jr (p 4))) (hW : zW (Jr (p 4)) b) (h9 : Jc (p 31) 6 = Jr (p 4) 9) : (x124 p v1 Jc).1 = (x230 p v1 Jr).1 ∧ zR (fun i => p (31 + i)) (x124 p v1 Jc).2 ((x230 p v1 Jr).2 (p 4)) ∧ zW ((x230 p v1 Jr).2 (p 4)) b ∧ ∀ i, i < 9 → (x230 p v1 Jr).2 (p 4) i = Jr (p 4) i := by
  unfold x124 x230
  by_cases h : 0 ≤ v1
  · rw [if_pos h, if_pos h]
    refine ⟨h9, ?_, ?_, fun i hi => me_uk (by omega)⟩
    · show zR _ (nt_u Jc (p 31) 6 v1) (nt_u Jr (p 4) 9 v1 (p 4))
      rw [zu_r]
      exact zR_up X.hq hR (by omega) (by omega) rfl
    · show zW (nt_u Jr (p 4) 9 v1 (p 4)) b
      have fo : ∀ j, j ≠ 9 → nt_u Jr (p 4) 9 v1 (p 4) j = Jr (p 4) j := fun j hj => me_uk hj
      exact ⟨xr_up hW.w (xr_any rfl), zA_ag hW.a hW.w (fun i hi _ => fo i (by omega)) (fun s hs k hk => fo _ (by omega)) (fun p hp => ⟨fo _ (by omega), fo _ (by omega)⟩) (fun u hu k hk => fo _ (by omega)), zB_ag hW.b hW.w (fo 1 (by omega)) (fo 2 (by omega)) (fun s hs => fo _ (by omega)) (fun p hp => ⟨fo _ (by omega), fo _ (by omega)⟩), zC_ag hW.c hW.w (fo 1 (by omega)) (fo 3 (by omega)) (fun s hs => ⟨fo _ (by omega), fo _ (by omega)⟩) (fun v hv => ⟨fo _ (by omega), fo _ (by omega), fo _ (by omega)⟩), zD_ag hW.d hW.w (fo 2 (by omega)) (fo 4 (by omega)) (fo 5 (by omega)) (fo 6 (by omega)) (fun p hp => fo _ (by omega))⟩
  · rw [if_neg h, if_neg h]
    exact ⟨rfl, hR, hW, fun _ _ => rfl⟩
/-- move -/
theorem zq_109 {p : Nat → Nat} {Jc Jr : Nat → Nat → Int32} {v1 v2 : Int32} {b : Int} (X : zX p (fun i => p (31 + i))) (hR : zR (fun i => p (31 + i)) Jc (Jr (p 4))) (hW : zW (Jr (p 4)) b) : (x109 p v1 v2 Jc).1 = (x181 p v1 v2 Jr).1 ∧ zR (fun i => p (31 + i)) (x109 p v1 v2 Jc).2 ((x181 p v1 v2 Jr).2 (p 4)) ∧ zW ((x181 p v1 v2 Jr).2 (p 4)) b ∧ ∀ i, i < 6 → (x181 p v1 v2 Jr).2 (p 4) i = Jr (p 4) i := by
  have no : ∀ (a : Int32 × (Nat → Nat → Int32)) (r : Int32 × (Nat → Nat → Int32)), a = (Int32.ofInt 0, Jc) → r = (Int32.ofInt 0, Jr) → a.1 = r.1 ∧ zR (fun i => p (31 + i)) a.2 (r.2 (p 4)) ∧ zW (r.2 (p 4)) b ∧ ∀ i, i < 6 → r.2 (p 4) i = Jr (p 4) i := by
    intro a r ea er
    subst ea
    subst er
    exact ⟨rfl, hR, hW, fun _ _ => rfl⟩
  have o0 : Int32.ofInt 0 = 0 := rfl
  have o1 : ¬ Int32.ofInt 1 = 0 := by decide
  have e70 : x70 (fun i => p (31 + i)) v1 Jc = x177 p v1 Jr := by
    unfold x70 x177
    rw [show Jc ((fun i => p (31 + i)) 1) 2 = Jr (p 4) 2 from zR_n hR (by omega)]
  have e65 : x65 (fun i => p (31 + i)) v2 Jc = x168 p v2 Jr := by
    unfold x65 x168
    rw [show Jc ((fun i => p (31 + i)) 1) 1 = Jr (p 4) 1 from zR_n hR (by omega)]
  by_cases hP : x177 p v1 Jr = 0
  · refine no _ _ ?_ ?_
    · unfold x109
      rw [e70, if_pos hP]
    · unfold x181
      rw [if_pos hP]
  have h0 : 0 ≤ v1.toInt ∧ ¬ Jr (p 4) 2 ≤ v1 := by
    unfold x177 at hP
    by_cases c : v1 < 0
    · rw [if_pos c] at hP
      exact absurd rfl hP
    · rw [if_neg c] at hP
      by_cases d : Jr (p 4) 2 ≤ v1
      · rw [if_pos d] at hP
        exact absurd rfl hP
      · have : ¬ v1.toInt < 0 := fun z => c (z_le0.mpr z)
        exact ⟨by omega, d⟩
  obtain ⟨hn, hi, c0, c1, c2, c3, c4, r0, r1, r2, r3, r4⟩ := zP hR hW.w h0.1 h0.2
  have bb := zn_b hW.w
  have hd := hW.a.hd
  have h6 := hW.d.h6
  have n0 : ¬ Jr (p 4) 0 = 0 := by
    have kn := hW.a.kn _ hn
    intro c
    rw [c, show (0 : Int32).toInt = 0 from by decide] at kn
    omega
  have e72 : x72 (fun i => p (31 + i)) Jc = Jr (p 4) 5 - Jr (p 4) 6 := zq_72 hR (fun c => absurd c n0)
  have e72i : (Jr (p 4) 5 - Jr (p 4) 6).toInt = (Jr (p 4) 5).toInt - (Jr (p 4) 6).toInt := by
    rw [Int32.toInt_sub, Int.bmod_eq_of_le (by omega) (by omega)]
  have e73 : x73 (fun i => p (31 + i)) v1 Jc = x183 p v1 Jr := zq_73 hR hW h0.1 h0.2
  have c3 : Jc (p 45) v1.toNatClampNeg = Jr (p 4) (52 + 5 * v1.toNatClampNeg + 3) := c3
  by_cases hH : Jr (p 4) 5 - Jr (p 4) 6 ≤ 0
  · have h184 : x184 p Jr = 0 := by
      unfold x184
      have := z_ge.mp hH
      rw [e72i, show (0 : Int32).toInt = 0 from by decide] at this
      rw [if_pos (z_ge.mpr (by omega))]
      rfl
    refine no _ _ ?_ ?_
    · unfold x109
      rw [e70, if_neg hP, e72]
      simp only [if_pos hH, ite_self]
    · unfold x181
      rw [if_neg hP]
      simp only [if_pos h184, ite_self]
  have hlt : (Jr (p 4) 6).toInt < (Jr (p 4) 5).toInt := by
    have : ¬ (Jr (p 4) 5 - Jr (p 4) 6).toInt ≤ 0 := fun z => hH (z_ge.mpr z)
    omega
  have h184 : ¬ x184 p Jr = 0 := by
    unfold x184
    rw [if_neg (fun z => by have := z_ge.mp z; omega)]
    decide
  by_cases hF : x183 p v1 Jr = 0
  · refine no _ _ ?_ ?_
    · unfold x109
      rw [e70, if_neg hP, e72, e73]
      simp only [if_pos hF, ite_self]
    · unfold x181
      rw [if_neg hP]
      simp only [if_pos hF, ite_self]
  by_cases hI : Jr (p 4) (52 + 5 * v1.toNatClampNeg + 3) = v2
  · refine no _ _ ?_ ?_
    · unfold x109
      rw [e70, if_neg hP, e72, c3]
      simp only [if_pos hI, ite_self]
    · unfold x181
      rw [if_neg hP, r3]
      simp only [if_pos hI, ite_self]
  have lost : Jr (p 4) (52 + 5 * v1.toNatClampNeg + 4) = 0 := by
    unfold x183 x172 at hF
    rw [r1, r4] at hF
    by_cases e : Jr (p 4) (52 + 5 * v1.toNatClampNeg + 1) ≤ 0
    · rw [if_pos e, if_pos o0] at hF
      exact absurd rfl hF
    · rw [if_neg e] at hF
      by_cases g : Jr (p 4) (52 + 5 * v1.toNatClampNeg + 4) = 0
      · exact g
      · rw [if_neg g, if_pos o0] at hF
        exact absurd rfl hF
  have yes : (-1 ≤ v2.toInt ∧ v2.toInt < (Jr (p 4) 1).toInt) → (0 ≤ v2.toInt → Jr (p 4) (10 + 7 * v2.toNatClampNeg + 4) ≠ 2) → ∀ (a : Int32 × (Nat → Nat → Int32)) (r : Int32 × (Nat → Nat → Int32)), a = (Int32.ofInt 1, x74 (fun i => p (31 + i)) v1 v2 Jc) → r = (Int32.ofInt 1, x185 p v1 v2 Jr) → a.1 = r.1 ∧ zR (fun i => p (31 + i)) a.2 (r.2 (p 4)) ∧ zW (r.2 (p 4)) b ∧ ∀ i, i < 6 → r.2 (p 4) i = Jr (p 4) i := by
    intro hs hsl a r ea er
    subst ea
    subst er
    have z := zput X.hq hR hW h0.1 h0.2 hs hsl lost hlt
    exact ⟨rfl, z.1, z.2, (xw_185 (xk_r hW.w) ⟨h0.1, by omega⟩ ⟨hs.1, by omega⟩).1.2⟩
  by_cases hA : v2 = Int32.ofInt (-1)
  · refine yes ?_ ?_ _ _ ?_ ?_
    · rw [hA, xi_m1]
      omega
    · intro c
      rw [hA, xi_m1] at c
      omega
    · unfold x109
      rw [e70, if_neg hP, if_pos hA, e72, if_neg hH, c3, if_neg hI, e73, if_neg hF, if_pos hA]
    · unfold x181
      rw [if_neg hP, if_pos hA, if_neg hF, r3, if_neg hI, if_neg h184]
  · by_cases hS : x168 p v2 Jr = 0
    · refine no _ _ ?_ ?_
      · unfold x109
        rw [e70, if_neg hP, if_neg hA, e65, if_pos hS]
      · unfold x181
        rw [if_neg hP, if_neg hA, if_pos hS]
    · have hs : 0 ≤ v2.toInt ∧ v2.toInt < (Jr (p 4) 1).toInt := by
        unfold x168 at hS
        by_cases c : v2 < 0
        · rw [if_pos c] at hS
          exact absurd rfl hS
        · rw [if_neg c] at hS
          by_cases d : Jr (p 4) 1 ≤ v2
          · rw [if_pos d] at hS
            exact absurd rfl hS
          · have : ¬ v2.toInt < 0 := fun z => c (z_le0.mpr z)
            exact ⟨by omega, z_lt d⟩
      have sS := zS hR hW.w hs.1 hs.2
      have e41 : Jc (p 41) v2.toNatClampNeg = Jr (p 4) (10 + 7 * v2.toNatClampNeg + 4) := sS.2.2.1
      have e182 : x182 p v2 Jr = if Jr (p 4) (10 + 7 * v2.toNatClampNeg + 4) = 0 then Int32.ofInt 1 else Int32.ofInt 0 := by
        unfold x182
        rw [sS.2.2.2.2.2.1]
      by_cases hT : Jr (p 4) (10 + 7 * v2.toNatClampNeg + 4) = 0
      · refine yes ⟨by omega, hs.2⟩ (fun _ c => by rw [hT] at c; exact absurd c (by decide)) _ _ ?_ ?_
        · unfold x109
          rw [e70, if_neg hP, if_neg hA, e65, if_neg hS, e72, if_neg hH, c3, if_neg hI, e73, if_neg hF, if_neg hA, e41, if_pos hT]
        · unfold x181
          rw [if_neg hP, if_neg hA, if_neg hS, e182, if_pos hT, if_neg o1, if_neg hF, r3, if_neg hI, if_neg h184]
      · refine no _ _ ?_ ?_
        · unfold x109
          rw [e70, if_neg hP, if_neg hA, e65, if_neg hS, e72, if_neg hH, c3, if_neg hI, e73, if_neg hF, if_neg hA, e41, if_neg hT]
        · unfold x181
          rw [if_neg hP, if_neg hA, if_neg hS, e182, if_neg hT, if_pos o0]
end
section
/-! a copy says the same -/
theorem mx_cr {J : Nat → Nat → Int32} {D N n : Nat} {fS fD : Nat → Int32} (h : n < N) : nt_u1 J D (va_cpy fS fD 0 0 N) D n = fS n := by
  show (if D = D then va_cpy fS fD 0 0 N else J D) n = _
  rw [if_pos rfl]
  unfold va_cpy
  rw [if_pos ⟨by omega, by omega⟩]
  congr 1
  omega
theorem xc90_1_0 {q r : Nat → Nat} {J : Nat → Nat → Int32} (hq : zq q) : x90 q r J (q 1) 0 = J (r 1) 0 := by
  unfold x90
  rw [mu_1 (hq 1 9 (by omega) (by omega) (by decide)), mu_1 (hq 1 8 (by omega) (by omega) (by decide)), mu_1 (hq 1 7 (by omega) (by omega) (by decide)), mu_1 (hq 1 6 (by omega) (by omega) (by decide)), mu_1 (hq 1 5 (by omega) (by omega) (by decide)), mu_1 (hq 1 4 (by omega) (by omega) (by decide)), mu_1 (hq 1 3 (by omega) (by omega) (by decide)), mu_1 (hq 1 2 (by omega) (by omega) (by decide)), me_uk (by decide), me_uk (by decide), me_uk (by decide), me_uk (by decide), me_us]
theorem xc90_1_1 {q r : Nat → Nat} {J : Nat → Nat → Int32} (hq : zq q) : x90 q r J (q 1) 1 = J (r 1) 1 := by
  unfold x90
  rw [mu_1 (hq 1 9 (by omega) (by omega) (by decide)), mu_1 (hq 1 8 (by omega) (by omega) (by decide)), mu_1 (hq 1 7 (by omega) (by omega) (by decide)), mu_1 (hq 1 6 (by omega) (by omega) (by decide)), mu_1 (hq 1 5 (by omega) (by omega) (by decide)), mu_1 (hq 1 4 (by omega) (by omega) (by decide)), mu_1 (hq 1 3 (by omega) (by omega) (by decide)), mu_1 (hq 1 2 (by omega) (by omega) (by decide)), me_uk (by decide), me_uk (by decide), me_uk (by decide), me_us]
theorem xc90_1_2 {q r : Nat → Nat} {J : Nat → Nat → Int32} (hq : zq q) : x90 q r J (q 1) 2 = J (r 1) 2 := by
  unfold x90
  rw [mu_1 (hq 1 9 (by omega) (by omega) (by decide)), mu_1 (hq 1 8 (by omega) (by omega) (by decide)), mu_1 (hq 1 7 (by omega) (by omega) (by decide)), mu_1 (hq 1 6 (by omega) (by omega) (by decide)), mu_1 (hq 1 5 (by omega) (by omega) (by decide)), mu_1 (hq 1 4 (by omega) (by omega) (by decide)), mu_1 (hq 1 3 (by omega) (by omega) (by decide)), mu_1 (hq 1 2 (by omega) (by omega) (by decide)), me_uk (by decide), me_uk (by decide), me_us]
theorem xc90_1_3 {q r : Nat → Nat} {J : Nat → Nat → Int32} (hq : zq q) : x90 q r J (q 1) 3 = J (r 1) 3 := by
  unfold x90
  rw [mu_1 (hq 1 9 (by omega) (by omega) (by decide)), mu_1 (hq 1 8 (by omega) (by omega) (by decide)), mu_1 (hq 1 7 (by omega) (by omega) (by decide)), mu_1 (hq 1 6 (by omega) (by omega) (by decide)), mu_1 (hq 1 5 (by omega) (by omega) (by decide)), mu_1 (hq 1 4 (by omega) (by omega) (by decide)), mu_1 (hq 1 3 (by omega) (by omega) (by decide)), mu_1 (hq 1 2 (by omega) (by omega) (by decide)), me_uk (by decide), me_us]
theorem xc90_1_4 {q r : Nat → Nat} {J : Nat → Nat → Int32} (hq : zq q) : x90 q r J (q 1) 4 = J (r 1) 4 := by
  unfold x90
  rw [mu_1 (hq 1 9 (by omega) (by omega) (by decide)), mu_1 (hq 1 8 (by omega) (by omega) (by decide)), mu_1 (hq 1 7 (by omega) (by omega) (by decide)), mu_1 (hq 1 6 (by omega) (by omega) (by decide)), mu_1 (hq 1 5 (by omega) (by omega) (by decide)), mu_1 (hq 1 4 (by omega) (by omega) (by decide)), mu_1 (hq 1 3 (by omega) (by omega) (by decide)), mu_1 (hq 1 2 (by omega) (by omega) (by decide)), me_us]
theorem xc90_2 {q r : Nat → Nat} {J : Nat → Nat → Int32} {n : Nat} (hq : zq q) (h : n < 24) : x90 q r J (q 2) n = J (r 2) n := by
  unfold x90
  rw [mu_1 (hq 2 9 (by omega) (by omega) (by decide)), mu_1 (hq 2 8 (by omega) (by omega) (by decide)), mu_1 (hq 2 7 (by omega) (by omega) (by decide)), mu_1 (hq 2 6 (by omega) (by omega) (by decide)), mu_1 (hq 2 5 (by omega) (by omega) (by decide)), mu_1 (hq 2 4 (by omega) (by omega) (by decide)), mu_1 (hq 2 3 (by omega) (by omega) (by decide)), mx_cr h]
theorem xc90_3 {q r : Nat → Nat} {J : Nat → Nat → Int32} {n : Nat} (hq : zq q) (h : n < 24) : x90 q r J (q 3) n = J (r 3) n := by
  unfold x90
  rw [mu_1 (hq 3 9 (by omega) (by omega) (by decide)), mu_1 (hq 3 8 (by omega) (by omega) (by decide)), mu_1 (hq 3 7 (by omega) (by omega) (by decide)), mu_1 (hq 3 6 (by omega) (by omega) (by decide)), mu_1 (hq 3 5 (by omega) (by omega) (by decide)), mu_1 (hq 3 4 (by omega) (by omega) (by decide)), mx_cr h]
theorem xc90_5 {q r : Nat → Nat} {J : Nat → Nat → Int32} {n : Nat} (hq : zq q) (h : n < 24) : x90 q r J (q 5) n = J (r 5) n := by
  unfold x90
  rw [mu_1 (hq 5 9 (by omega) (by omega) (by decide)), mu_1 (hq 5 8 (by omega) (by omega) (by decide)), mu_1 (hq 5 7 (by omega) (by omega) (by decide)), mu_1 (hq 5 6 (by omega) (by omega) (by decide)), mx_cr h]
theorem xc90_6 {q r : Nat → Nat} {J : Nat → Nat → Int32} {n : Nat} (hq : zq q) (h : n < 8) : x90 q r J (q 6) n = J (r 6) n := by
  unfold x90
  rw [mu_1 (hq 6 9 (by omega) (by omega) (by decide)), mu_1 (hq 6 8 (by omega) (by omega) (by decide)), mu_1 (hq 6 7 (by omega) (by omega) (by decide)), mx_cr h]
theorem xc90_7 {q r : Nat → Nat} {J : Nat → Nat → Int32} {n : Nat} (hq : zq q) (h : n < 8) : x90 q r J (q 7) n = J (r 7) n := by
  unfold x90
  rw [mu_1 (hq 7 9 (by omega) (by omega) (by decide)), mu_1 (hq 7 8 (by omega) (by omega) (by decide)), mx_cr h]
theorem xc90_8 {q r : Nat → Nat} {J : Nat → Nat → Int32} {n : Nat} (hq : zq q) (h : n < 8) : x90 q r J (q 8) n = J (r 8) n := by
  unfold x90
  rw [mu_1 (hq 8 9 (by omega) (by omega) (by decide)), mx_cr h]
theorem xc90_9 {q r : Nat → Nat} {J : Nat → Nat → Int32} {n : Nat} (hq : zq q) (h : n < 8) : x90 q r J (q 9) n = J (r 9) n := by
  unfold x90
  rw [mx_cr h]
theorem xc80_0_1 {q r : Nat → Nat} {J : Nat → Nat → Int32} (hq : zq q) : x80 q r J (q 0) 1 = J (r 0) 1 := by
  unfold x80
  rw [mu_1 (hq 0 16 (by omega) (by omega) (by decide)), mu_1 (hq 0 15 (by omega) (by omega) (by decide)), mu_1 (hq 0 14 (by omega) (by omega) (by decide)), mu_1 (hq 0 13 (by omega) (by omega) (by decide)), mu_1 (hq 0 12 (by omega) (by omega) (by decide)), mu_1 (hq 0 11 (by omega) (by omega) (by decide)), mu_1 (hq 0 10 (by omega) (by omega) (by decide)), me_uk (by decide), me_uk (by decide), me_uk (by decide), me_uk (by decide), me_uk (by decide), me_us]
theorem xc80_0_2 {q r : Nat → Nat} {J : Nat → Nat → Int32} (hq : zq q) : x80 q r J (q 0) 2 = J (r 0) 2 := by
  unfold x80
  rw [mu_1 (hq 0 16 (by omega) (by omega) (by decide)), mu_1 (hq 0 15 (by omega) (by omega) (by decide)), mu_1 (hq 0 14 (by omega) (by omega) (by decide)), mu_1 (hq 0 13 (by omega) (by omega) (by decide)), mu_1 (hq 0 12 (by omega) (by omega) (by decide)), mu_1 (hq 0 11 (by omega) (by omega) (by decide)), mu_1 (hq 0 10 (by omega) (by omega) (by decide)), me_uk (by decide), me_uk (by decide), me_uk (by decide), me_uk (by decide), me_us]
theorem xc80_0_3 {q r : Nat → Nat} {J : Nat → Nat → Int32} (hq : zq q) : x80 q r J (q 0) 3 = J (r 0) 3 := by
  unfold x80
  rw [mu_1 (hq 0 16 (by omega) (by omega) (by decide)), mu_1 (hq 0 15 (by omega) (by omega) (by decide)), mu_1 (hq 0 14 (by omega) (by omega) (by decide)), mu_1 (hq 0 13 (by omega) (by omega) (by decide)), mu_1 (hq 0 12 (by omega) (by omega) (by decide)), mu_1 (hq 0 11 (by omega) (by omega) (by decide)), mu_1 (hq 0 10 (by omega) (by omega) (by decide)), me_uk (by decide), me_uk (by decide), me_uk (by decide), me_us]
theorem xc80_0_4 {q r : Nat → Nat} {J : Nat → Nat → Int32} (hq : zq q) : x80 q r J (q 0) 4 = J (r 0) 4 := by
  unfold x80
  rw [mu_1 (hq 0 16 (by omega) (by omega) (by decide)), mu_1 (hq 0 15 (by omega) (by omega) (by decide)), mu_1 (hq 0 14 (by omega) (by omega) (by decide)), mu_1 (hq 0 13 (by omega) (by omega) (by decide)), mu_1 (hq 0 12 (by omega) (by omega) (by decide)), mu_1 (hq 0 11 (by omega) (by omega) (by decide)), mu_1 (hq 0 10 (by omega) (by omega) (by decide)), me_uk (by decide), me_uk (by decide), me_us]
theorem xc80_0_5 {q r : Nat → Nat} {J : Nat → Nat → Int32} (hq : zq q) : x80 q r J (q 0) 5 = J (r 0) 5 := by
  unfold x80
  rw [mu_1 (hq 0 16 (by omega) (by omega) (by decide)), mu_1 (hq 0 15 (by omega) (by omega) (by decide)), mu_1 (hq 0 14 (by omega) (by omega) (by decide)), mu_1 (hq 0 13 (by omega) (by omega) (by decide)), mu_1 (hq 0 12 (by omega) (by omega) (by decide)), mu_1 (hq 0 11 (by omega) (by omega) (by decide)), mu_1 (hq 0 10 (by omega) (by omega) (by decide)), me_uk (by decide), me_us]
theorem xc80_0_6 {q r : Nat → Nat} {J : Nat → Nat → Int32} (hq : zq q) : x80 q r J (q 0) 6 = J (r 0) 6 := by
  unfold x80
  rw [mu_1 (hq 0 16 (by omega) (by omega) (by decide)), mu_1 (hq 0 15 (by omega) (by omega) (by decide)), mu_1 (hq 0 14 (by omega) (by omega) (by decide)), mu_1 (hq 0 13 (by omega) (by omega) (by decide)), mu_1 (hq 0 12 (by omega) (by omega) (by decide)), mu_1 (hq 0 11 (by omega) (by omega) (by decide)), mu_1 (hq 0 10 (by omega) (by omega) (by decide)), me_us]
theorem xc80_1 {q r : Nat → Nat} {J : Nat → Nat → Int32} (hq : zq q) : x80 q r J (q 1) = x90 q r J (q 1) := by
  unfold x80
  rw [mu_1 (hq 1 16 (by omega) (by omega) (by decide)), mu_1 (hq 1 15 (by omega) (by omega) (by decide)), mu_1 (hq 1 14 (by omega) (by omega) (by decide)), mu_1 (hq 1 13 (by omega) (by omega) (by decide)), mu_1 (hq 1 12 (by omega) (by omega) (by decide)), mu_1 (hq 1 11 (by omega) (by omega) (by decide)), mu_1 (hq 1 10 (by omega) (by omega) (by decide)), me_uo (hq 1 0 (by omega) (by omega) (by decide)), me_uo (hq 1 0 (by omega) (by omega) (by decide)), me_uo (hq 1 0 (by omega) (by omega) (by decide)), me_uo (hq 1 0 (by omega) (by omega) (by decide)), me_uo (hq 1 0 (by omega) (by omega) (by decide)), me_uo (hq 1 0 (by omega) (by omega) (by decide))]
theorem xc80_2 {q r : Nat → Nat} {J : Nat → Nat → Int32} (hq : zq q) : x80 q r J (q 2) = x90 q r J (q 2) := by
  unfold x80
  rw [mu_1 (hq 2 16 (by omega) (by omega) (by decide)), mu_1 (hq 2 15 (by omega) (by omega) (by decide)), mu_1 (hq 2 14 (by omega) (by omega) (by decide)), mu_1 (hq 2 13 (by omega) (by omega) (by decide)), mu_1 (hq 2 12 (by omega) (by omega) (by decide)), mu_1 (hq 2 11 (by omega) (by omega) (by decide)), mu_1 (hq 2 10 (by omega) (by omega) (by decide)), me_uo (hq 2 0 (by omega) (by omega) (by decide)), me_uo (hq 2 0 (by omega) (by omega) (by decide)), me_uo (hq 2 0 (by omega) (by omega) (by decide)), me_uo (hq 2 0 (by omega) (by omega) (by decide)), me_uo (hq 2 0 (by omega) (by omega) (by decide)), me_uo (hq 2 0 (by omega) (by omega) (by decide))]
theorem xc80_3 {q r : Nat → Nat} {J : Nat → Nat → Int32} (hq : zq q) : x80 q r J (q 3) = x90 q r J (q 3) := by
  unfold x80
  rw [mu_1 (hq 3 16 (by omega) (by omega) (by decide)), mu_1 (hq 3 15 (by omega) (by omega) (by decide)), mu_1 (hq 3 14 (by omega) (by omega) (by decide)), mu_1 (hq 3 13 (by omega) (by omega) (by decide)), mu_1 (hq 3 12 (by omega) (by omega) (by decide)), mu_1 (hq 3 11 (by omega) (by omega) (by decide)), mu_1 (hq 3 10 (by omega) (by omega) (by decide)), me_uo (hq 3 0 (by omega) (by omega) (by decide)), me_uo (hq 3 0 (by omega) (by omega) (by decide)), me_uo (hq 3 0 (by omega) (by omega) (by decide)), me_uo (hq 3 0 (by omega) (by omega) (by decide)), me_uo (hq 3 0 (by omega) (by omega) (by decide)), me_uo (hq 3 0 (by omega) (by omega) (by decide))]
theorem xc80_5 {q r : Nat → Nat} {J : Nat → Nat → Int32} (hq : zq q) : x80 q r J (q 5) = x90 q r J (q 5) := by
  unfold x80
  rw [mu_1 (hq 5 16 (by omega) (by omega) (by decide)), mu_1 (hq 5 15 (by omega) (by omega) (by decide)), mu_1 (hq 5 14 (by omega) (by omega) (by decide)), mu_1 (hq 5 13 (by omega) (by omega) (by decide)), mu_1 (hq 5 12 (by omega) (by omega) (by decide)), mu_1 (hq 5 11 (by omega) (by omega) (by decide)), mu_1 (hq 5 10 (by omega) (by omega) (by decide)), me_uo (hq 5 0 (by omega) (by omega) (by decide)), me_uo (hq 5 0 (by omega) (by omega) (by decide)), me_uo (hq 5 0 (by omega) (by omega) (by decide)), me_uo (hq 5 0 (by omega) (by omega) (by decide)), me_uo (hq 5 0 (by omega) (by omega) (by decide)), me_uo (hq 5 0 (by omega) (by omega) (by decide))]
theorem xc80_6 {q r : Nat → Nat} {J : Nat → Nat → Int32} (hq : zq q) : x80 q r J (q 6) = x90 q r J (q 6) := by
  unfold x80
  rw [mu_1 (hq 6 16 (by omega) (by omega) (by decide)), mu_1 (hq 6 15 (by omega) (by omega) (by decide)), mu_1 (hq 6 14 (by omega) (by omega) (by decide)), mu_1 (hq 6 13 (by omega) (by omega) (by decide)), mu_1 (hq 6 12 (by omega) (by omega) (by decide)), mu_1 (hq 6 11 (by omega) (by omega) (by decide)), mu_1 (hq 6 10 (by omega) (by omega) (by decide)), me_uo (hq 6 0 (by omega) (by omega) (by decide)), me_uo (hq 6 0 (by omega) (by omega) (by decide)), me_uo (hq 6 0 (by omega) (by omega) (by decide)), me_uo (hq 6 0 (by omega) (by omega) (by decide)), me_uo (hq 6 0 (by omega) (by omega) (by decide)), me_uo (hq 6 0 (by omega) (by omega) (by decide))]
theorem xc80_7 {q r : Nat → Nat} {J : Nat → Nat → Int32} (hq : zq q) : x80 q r J (q 7) = x90 q r J (q 7) := by
  unfold x80
  rw [mu_1 (hq 7 16 (by omega) (by omega) (by decide)), mu_1 (hq 7 15 (by omega) (by omega) (by decide)), mu_1 (hq 7 14 (by omega) (by omega) (by decide)), mu_1 (hq 7 13 (by omega) (by omega) (by decide)), mu_1 (hq 7 12 (by omega) (by omega) (by decide)), mu_1 (hq 7 11 (by omega) (by omega) (by decide)), mu_1 (hq 7 10 (by omega) (by omega) (by decide)), me_uo (hq 7 0 (by omega) (by omega) (by decide)), me_uo (hq 7 0 (by omega) (by omega) (by decide)), me_uo (hq 7 0 (by omega) (by omega) (by decide)), me_uo (hq 7 0 (by omega) (by omega) (by decide)), me_uo (hq 7 0 (by omega) (by omega) (by decide)), me_uo (hq 7 0 (by omega) (by omega) (by decide))]
theorem xc80_8 {q r : Nat → Nat} {J : Nat → Nat → Int32} (hq : zq q) : x80 q r J (q 8) = x90 q r J (q 8) := by
  unfold x80
  rw [mu_1 (hq 8 16 (by omega) (by omega) (by decide)), mu_1 (hq 8 15 (by omega) (by omega) (by decide)), mu_1 (hq 8 14 (by omega) (by omega) (by decide)), mu_1 (hq 8 13 (by omega) (by omega) (by decide)), mu_1 (hq 8 12 (by omega) (by omega) (by decide)), mu_1 (hq 8 11 (by omega) (by omega) (by decide)), mu_1 (hq 8 10 (by omega) (by omega) (by decide)), me_uo (hq 8 0 (by omega) (by omega) (by decide)), me_uo (hq 8 0 (by omega) (by omega) (by decide)), me_uo (hq 8 0 (by omega) (by omega) (by decide)), me_uo (hq 8 0 (by omega) (by omega) (by decide)), me_uo (hq 8 0 (by omega) (by omega) (by decide)), me_uo (hq 8 0 (by omega) (by omega) (by decide))]
theorem xc80_9 {q r : Nat → Nat} {J : Nat → Nat → Int32} (hq : zq q) : x80 q r J (q 9) = x90 q r J (q 9) := by
  unfold x80
  rw [mu_1 (hq 9 16 (by omega) (by omega) (by decide)), mu_1 (hq 9 15 (by omega) (by omega) (by decide)), mu_1 (hq 9 14 (by omega) (by omega) (by decide)), mu_1 (hq 9 13 (by omega) (by omega) (by decide)), mu_1 (hq 9 12 (by omega) (by omega) (by decide)), mu_1 (hq 9 11 (by omega) (by omega) (by decide)), mu_1 (hq 9 10 (by omega) (by omega) (by decide)), me_uo (hq 9 0 (by omega) (by omega) (by decide)), me_uo (hq 9 0 (by omega) (by omega) (by decide)), me_uo (hq 9 0 (by omega) (by omega) (by decide)), me_uo (hq 9 0 (by omega) (by omega) (by decide)), me_uo (hq 9 0 (by omega) (by omega) (by decide)), me_uo (hq 9 0 (by omega) (by omega) (by decide))]
theorem xc80_10 {q r : Nat → Nat} {J : Nat → Nat → Int32} {n : Nat} (hq : zq q) (h : n < 6) : x80 q r J (q 10) n = J (r 10) n := by
  unfold x80
  rw [mu_1 (hq 10 16 (by omega) (by omega) (by decide)), mu_1 (hq 10 15 (by omega) (by omega) (by decide)), mu_1 (hq 10 14 (by omega) (by omega) (by decide)), mu_1 (hq 10 13 (by omega) (by omega) (by decide)), mu_1 (hq 10 12 (by omega) (by omega) (by decide)), mu_1 (hq 10 11 (by omega) (by omega) (by decide)), mx_cr h]
theorem xc80_11 {q r : Nat → Nat} {J : Nat → Nat → Int32} {n : Nat} (hq : zq q) (h : n < 6) : x80 q r J (q 11) n = J (r 11) n := by
  unfold x80
  rw [mu_1 (hq 11 16 (by omega) (by omega) (by decide)), mu_1 (hq 11 15 (by omega) (by omega) (by decide)), mu_1 (hq 11 14 (by omega) (by omega) (by decide)), mu_1 (hq 11 13 (by omega) (by omega) (by decide)), mu_1 (hq 11 12 (by omega) (by omega) (by decide)), mx_cr h]
theorem xc80_12 {q r : Nat → Nat} {J : Nat → Nat → Int32} {n : Nat} (hq : zq q) (h : n < 6) : x80 q r J (q 12) n = J (r 12) n := by
  unfold x80
  rw [mu_1 (hq 12 16 (by omega) (by omega) (by decide)), mu_1 (hq 12 15 (by omega) (by omega) (by decide)), mu_1 (hq 12 14 (by omega) (by omega) (by decide)), mu_1 (hq 12 13 (by omega) (by omega) (by decide)), mx_cr h]
theorem xc80_13 {q r : Nat → Nat} {J : Nat → Nat → Int32} {n : Nat} (hq : zq q) (h : n < 24) : x80 q r J (q 13) n = J (r 13) n := by
  unfold x80
  rw [mu_1 (hq 13 16 (by omega) (by omega) (by decide)), mu_1 (hq 13 15 (by omega) (by omega) (by decide)), mu_1 (hq 13 14 (by omega) (by omega) (by decide)), mx_cr h]
theorem xc80_14 {q r : Nat → Nat} {J : Nat → Nat → Int32} {n : Nat} (hq : zq q) (h : n < 24) : x80 q r J (q 14) n = J (r 14) n := by
  unfold x80
  rw [mu_1 (hq 14 16 (by omega) (by omega) (by decide)), mu_1 (hq 14 15 (by omega) (by omega) (by decide)), mx_cr h]
theorem xc80_15 {q r : Nat → Nat} {J : Nat → Nat → Int32} {n : Nat} (hq : zq q) (h : n < 24) : x80 q r J (q 15) n = J (r 15) n := by
  unfold x80
  rw [mu_1 (hq 15 16 (by omega) (by omega) (by decide)), mx_cr h]
theorem xc80_16 {q r : Nat → Nat} {J : Nat → Nat → Int32} {n : Nat} (hq : zq q) (h : n < 8) : x80 q r J (q 16) n = J (r 16) n := by
  unfold x80
  rw [mx_cr h]
def zlen (r : Nat) : Nat := if r = 2 ∨ r = 3 ∨ r = 5 ∨ r = 13 ∨ r = 14 ∨ r = 15 then 24 else if r < 10 ∨ r = 16 then 8 else 6
theorem zc_bd : ∀ j, j < 212 → ((zc j).1 = 0 ∧ 1 ≤ (zc j).2 ∧ (zc j).2 ≤ 6) ∨ ((zc j).1 = 1 ∧ (zc j).2 ≤ 4) ∨ (2 ≤ (zc j).1 ∧ (zc j).1 < 17 ∧ (zc j).1 ≠ 4 ∧ (zc j).2 < zlen (zc j).1) := by decide +kernel
theorem zR_copy {q r : Nat → Nat} {J : Nat → Nat → Int32} {e : Nat → Int32} (hq : zq q) (h : zR r J e) : zR q (x80 q r J) e := by
  refine ⟨fun j hj => ?_, ?_⟩
  · rw [← h.1 j hj]
    rcases zc_bd j (zv_lt hj) with ⟨e1, a, b⟩ | ⟨e1, a⟩ | ⟨l2, l17, n4, a⟩
    · rw [e1]
      rcases (by omega : (zc j).2 = 1 ∨ (zc j).2 = 2 ∨ (zc j).2 = 3 ∨ (zc j).2 = 4 ∨ (zc j).2 = 5 ∨ (zc j).2 = 6) with c | c | c | c | c | c
      · rw [c]
        exact xc80_0_1 hq
      · rw [c]
        exact xc80_0_2 hq
      · rw [c]
        exact xc80_0_3 hq
      · rw [c]
        exact xc80_0_4 hq
      · rw [c]
        exact xc80_0_5 hq
      · rw [c]
        exact xc80_0_6 hq
    · rw [e1]
      rcases (by omega : (zc j).2 = 0 ∨ (zc j).2 = 1 ∨ (zc j).2 = 2 ∨ (zc j).2 = 3 ∨ (zc j).2 = 4) with c | c | c | c | c
      · rw [c, xc80_1 hq]
        exact xc90_1_0 hq
      · rw [c, xc80_1 hq]
        exact xc90_1_1 hq
      · rw [c, xc80_1 hq]
        exact xc90_1_2 hq
      · rw [c, xc80_1 hq]
        exact xc90_1_3 hq
      · rw [c, xc80_1 hq]
        exact xc90_1_4 hq
    · rcases (by omega : (zc j).1 = 2 ∨ (zc j).1 = 3 ∨ (zc j).1 = 5 ∨ (zc j).1 = 6 ∨ (zc j).1 = 7 ∨ (zc j).1 = 8 ∨ (zc j).1 = 9 ∨ (zc j).1 = 10 ∨ (zc j).1 = 11 ∨ (zc j).1 = 12 ∨ (zc j).1 = 13 ∨ (zc j).1 = 14 ∨ (zc j).1 = 15 ∨ (zc j).1 = 16) with e1 | e1 | e1 | e1 | e1 | e1 | e1 | e1 | e1 | e1 | e1 | e1 | e1 | e1
      · rw [e1] at a ⊢
        exact (congrFun (xc80_2 hq) _).trans (xc90_2 hq a)
      · rw [e1] at a ⊢
        exact (congrFun (xc80_3 hq) _).trans (xc90_3 hq a)
      · rw [e1] at a ⊢
        exact (congrFun (xc80_5 hq) _).trans (xc90_5 hq a)
      · rw [e1] at a ⊢
        exact (congrFun (xc80_6 hq) _).trans (xc90_6 hq a)
      · rw [e1] at a ⊢
        exact (congrFun (xc80_7 hq) _).trans (xc90_7 hq a)
      · rw [e1] at a ⊢
        exact (congrFun (xc80_8 hq) _).trans (xc90_8 hq a)
      · rw [e1] at a ⊢
        exact (congrFun (xc80_9 hq) _).trans (xc90_9 hq a)
      · rw [e1] at a ⊢
        exact xc80_10 hq a
      · rw [e1] at a ⊢
        exact xc80_11 hq a
      · rw [e1] at a ⊢
        exact xc80_12 hq a
      · rw [e1] at a ⊢
        exact xc80_13 hq a
      · rw [e1] at a ⊢
        exact xc80_14 hq a
      · rw [e1] at a ⊢
        exact xc80_15 hq a
      · rw [e1] at a ⊢
        exact xc80_16 hq a
  · rw [xc80_0_1 hq]
    exact h.2
end
section
/-! whose ship is whose: both sides -/
theorem zq_75l {q p : Nat → Nat} {Jc Jr : Nat → Nat → Int32} {s o : Int32} (hR : zR q Jc (Jr (p 4))) (hW : xr_W (Jr (p 4))) (hl : zl (Jr (p 4)) s) : ∀ (c : Nat) (a i : Int32), 0 ≤ i.toInt → x75_5 q s o Jc c a i = x220_5 p s o Jr c a i := by
  intro c
  induction c with
  | zero => intro a i h; rfl
  | succ c ih =>
    intro a i h
    rw [x75_5, x220_5, zR_n hR (by omega)]
    by_cases h1 : Jr (p 4) 2 ≤ i
    · rw [if_pos h1, if_pos h1]
    · rw [if_neg h1, if_neg h1]
      obtain ⟨hn, hi, c0, c1, c2, c3, c4, r0, r1, r2, r3, r4⟩ := zP hR hW h h1
      rw [z_in r1 r3 r4 (hl _ hn), c1, c2, c3, r2]
      by_cases h3 : Jr (p 4) (52 + 5 * i.toNatClampNeg + 3) = s
      · rw [if_pos h3, if_pos h3]
        by_cases h2 : Jr (p 4) (52 + 5 * i.toNatClampNeg + 1) ≤ 0
        · rw [if_pos h2, if_pos h2, if_pos rfl, z_add0]
          exact ih _ _ (zi_i h1 h)
        · rw [if_neg h2, if_neg h2, if_neg (show ¬ (1 : Int32) = 0 from by decide)]
          by_cases h4 : Jr (p 4) (52 + 5 * i.toNatClampNeg + 2) = o
          · rw [if_pos h4, if_pos h4]
            exact ih _ _ (zi_i h1 h)
          · rw [if_neg h4, if_neg h4, z_add0]
            exact ih _ _ (zi_i h1 h)
      · rw [if_neg h3, if_neg h3, if_pos rfl, z_add0]
        exact ih _ _ (zi_i h1 h)
theorem zq_75 {q p : Nat → Nat} {Jc Jr : Nat → Nat → Int32} {s o : Int32} (hR : zR q Jc (Jr (p 4))) (hW : xr_W (Jr (p 4))) (hl : zl (Jr (p 4)) s) : x75 q s o Jc = x220 p s o Jr := by
  unfold x75 x220
  rw [zR_n hR (by omega)]
  exact zq_75l hR hW hl _ _ _ (by decide)
theorem zq_77l {q p : Nat → Nat} {Jc Jr : Nat → Nat → Int32} {s : Int32} (hR : zR q Jc (Jr (p 4))) (hW : xr_W (Jr (p 4))) (hl : zl (Jr (p 4)) s) : ∀ (c : Nat) (a m i : Int32), x77_7 q s Jc c a m i = x219_7 p s Jr c a m i := by
  intro c
  induction c with
  | zero => intro a m i; rfl
  | succ c ih =>
    intro a m i
    rw [x77_7, x219_7, zR_n hR (by omega), zq_75 hR hW hl]
    by_cases h1 : Jr (p 4) 1 ≤ i
    · rw [if_pos h1, if_pos h1]
    · rw [if_neg h1, if_neg h1]
      by_cases h2 : x220 p s i Jr ≤ m
      · simp only [if_pos h2]
        exact ih _ _ _
      · simp only [if_neg h2]
        exact ih _ _ _
theorem zq_78l {q p : Nat → Nat} {Jc Jr : Nat → Nat → Int32} {s : Int32} (hR : zR q Jc (Jr (p 4))) (hW : xr_W (Jr (p 4))) (hl : zl (Jr (p 4)) s) : ∀ (c : Nat) (i : Int32), 0 ≤ i.toInt → x78_2 q s Jc c i = x218_20 p s Jr c i := by
  intro c
  induction c with
  | zero => intro i h; rfl
  | succ c ih =>
    intro i h
    rw [x78_2, x218_20, zR_n hR (by omega)]
    by_cases h1 : Jr (p 4) 2 ≤ i
    · rw [if_pos h1, if_pos h1]
    · rw [if_neg h1, if_neg h1]
      obtain ⟨hn, hi, c0, c1, c2, c3, c4, r0, r1, r2, r3, r4⟩ := zP hR hW h h1
      rw [z_in r1 r3 r4 (hl _ hn), c0, c1, c2, c3, r0, r2, ih _ (zi_i h1 h)]
      by_cases h3 : Jr (p 4) (52 + 5 * i.toNatClampNeg + 3) = s
      · rw [if_pos h3, if_pos h3]
        by_cases h2 : Jr (p 4) (52 + 5 * i.toNatClampNeg + 1) ≤ 0
        · rw [if_pos h2, if_pos h2, if_pos rfl]
        · rw [if_neg h2, if_neg h2, if_neg (show ¬ (1 : Int32) = 0 from by decide)]
      · rw [if_neg h3, if_neg h3, if_pos rfl]
/-- nothing is in a lost ship -/
theorem zlo_in {p : Nat → Nat} {J : Nat → Nat → Int32} {s i : Int32} {b : Int} (hW : zW (J (p 4)) b) (hs : 0 ≤ s.toInt) (h2 : J (p 4) (10 + 7 * s.toNatClampNeg + 4) = 2) (h : 0 ≤ i.toInt) (h1 : ¬ J (p 4) 2 ≤ i) : x171 p i s J = 0 := by
  have bb := zn_b hW.w
  have x := zx bb.2.2.2.2.2.2.1 h h1
  have r1 : x173 p i (Int32.ofInt 1) J = _ := zx_p (k := 1) h (by omega) (by omega)
  have r3 : x173 p i (Int32.ofInt 3) J = _ := zx_p (k := 3) h (by omega) (by omega)
  have r4 : x173 p i (Int32.ofInt 4) J = _ := zx_p (k := 4) h (by omega) (by omega)
  have lo := hW.b.lo _ x.1
  unfold x171 x172
  rw [r1, r3, r4]
  by_cases c3 : J (p 4) (52 + 5 * i.toNatClampNeg + 3) = s
  · rw [c3, if_pos ⟨hs, h2⟩] at lo
    rw [lo, if_neg (show ¬ (1 : Int32) = 0 from by decide), ite_self]
    rfl
  · rw [if_neg c3, ite_self]
    rfl
theorem zlo_220 {p : Nat → Nat} {J : Nat → Nat → Int32} {s o : Int32} {b : Int} (hW : zW (J (p 4)) b) (hs : 0 ≤ s.toInt) (h2 : J (p 4) (10 + 7 * s.toNatClampNeg + 4) = 2) : ∀ (c : Nat) (a i : Int32), 0 ≤ i.toInt → x220_5 p s o J c a i = a := by
  intro c
  induction c with
  | zero => intro a i h; rfl
  | succ c ih =>
    intro a i h
    rw [x220_5]
    by_cases h1 : J (p 4) 2 ≤ i
    · rw [if_pos h1]
    · rw [if_neg h1, if_pos (zlo_in hW hs h2 h h1), z_add0]
      exact ih _ _ (zi_i h1 h)
theorem zlo_219 {p : Nat → Nat} {J : Nat → Nat → Int32} {s : Int32} {b : Int} (hW : zW (J (p 4)) b) (hs : 0 ≤ s.toInt) (h2 : J (p 4) (10 + 7 * s.toNatClampNeg + 4) = 2) : ∀ (c : Nat) (a i : Int32), x219_7 p s J c a (Int32.ofInt 0) i = a := by
  intro c
  induction c with
  | zero => intro a i; rfl
  | succ c ih =>
    intro a i
    have e : x220 p s i J = Int32.ofInt 0 := zlo_220 hW hs h2 _ _ _ (by decide)
    rw [x219_7, e]
    split
    · rfl
    · simp only [if_pos (show Int32.ofInt 0 ≤ Int32.ofInt 0 from by decide)]
      exact ih _ _
theorem zlo_218 {p : Nat → Nat} {J : Nat → Nat → Int32} {s : Int32} {b : Int} (hW : zW (J (p 4)) b) (hs : 0 ≤ s.toInt) (h2 : J (p 4) (10 + 7 * s.toNatClampNeg + 4) = 2) : ∀ (c : Nat) (i : Int32), 0 ≤ i.toInt → x218_20 p s J c i = Int32.ofInt (-1) := by
  intro c
  induction c with
  | zero => intro i h; rfl
  | succ c ih =>
    intro i h
    rw [x218_20]
    by_cases h1 : J (p 4) 2 ≤ i
    · rw [if_pos h1]
    · rw [if_neg h1, if_pos (zlo_in hW hs h2 h h1)]
      exact ih _ (zi_i h1 h)
theorem zq_76 {q p : Nat → Nat} {Jc Jr : Nat → Nat → Int32} {l s : Int32} {b : Int} (hR : zR q Jc (Jr (p 4))) (hW : zW (Jr (p 4)) b) (hs : 0 ≤ s.toInt ∧ s.toInt < (Jr (p 4) 1).toInt) : x76 q l s Jc = x218 p l s Jr := by
  have sS := zS hR hW.w hs.1 hs.2
  unfold x76 x218
  rw [sS.2.2.1]
  by_cases h2 : l = Int32.ofInt 2
  · rw [if_pos h2, if_pos h2]
  · rw [if_neg h2, if_neg h2]
    by_cases h3 : Jr (p 4) (10 + 7 * s.toNatClampNeg + 4) = Int32.ofInt 2
    · rw [if_pos h3]
      have e1 : x219 p s Jr = Int32.ofInt (-1) := zlo_219 hW hs.1 h3 _ _ _
      rw [e1, zlo_218 hW hs.1 h3 _ _ (by decide), ite_self]
    · rw [if_neg h3]
      have hl : zl (Jr (p 4)) s := zl_of hW (fun _ c => h3 c)
      have e1 : x77 q s Jc = x219 p s Jr := by
        unfold x77 x219
        rw [zR_n hR (by omega)]
        exact zq_77l hR hW.w hl _ _ _ _
      have e2 : x78 q s Jc = x218_20 p s Jr ((Jr (p 4) 2).toNatClampNeg) (Int32.ofInt 0) := by
        unfold x78
        rw [zR_n hR (by omega)]
        exact zq_78l hR hW.w hl _ _ (by decide)
      rw [e1, e2]
theorem zq_119 {p : Nat → Nat} {Jc Jr : Nat → Nat → Int32} {v1 v2 : Int32} {b : Int} (hR : zR (fun i => p (31 + i)) Jc (Jr (p 4))) (hW : zW (Jr (p 4)) b) : x119 p v1 v2 Jc = x217 p v1 v2 Jr := by
  have e65 : x65 (fun i => p (31 + i)) v2 Jc = x168 p v2 Jr := by
    unfold x65 x168
    rw [show Jc ((fun i => p (31 + i)) 1) 1 = Jr (p 4) 1 from zR_n hR (by omega)]
  have o0 : Int32.ofInt 0 = 0 := rfl
  have o1 : ¬ Int32.ofInt 1 = 0 := by decide
  unfold x119 x217
  rw [z_145, e65, show (Int64.ofNat 0).toInt = 0 from by decide, show (2 : Int64).toInt = 2 from by decide]
  by_cases h0 : v1 < 0
  · rw [if_pos h0, if_pos (Or.inl (z_le0.mp h0)), if_pos o0]
  · rw [if_neg h0]
    have n0 : ¬ v1.toInt < 0 := fun c => h0 (z_le0.mpr c)
    by_cases h1 : Int32.ofInt 2 < v1
    · have h1' := Int32.lt_iff_toInt_lt.mp h1
      rw [show (Int32.ofInt 2).toInt = 2 from by decide] at h1'
      rw [if_pos h1, if_pos (Or.inr h1'), if_pos o0]
    · have h1' : ¬ 2 < v1.toInt := fun c => h1 (Int32.lt_iff_toInt_lt.mpr (by rw [show (Int32.ofInt 2).toInt = 2 from by decide]; exact c))
      have nn : ¬ (v1.toInt < 0 ∨ 2 < v1.toInt) := fun c => by omega
      rw [if_neg h1, if_neg nn, if_neg o1]
      by_cases h2 : x168 p v2 Jr = 0
      · rw [if_pos h2, if_pos h2]
      · rw [if_neg h2, if_neg h2]
        refine zq_76 hR hW ?_
        unfold x168 at h2
        by_cases c : v2 < 0
        · rw [if_pos c] at h2
          exact absurd rfl h2
        · rw [if_neg c] at h2
          by_cases d : Jr (p 4) 1 ≤ v2
          · rw [if_pos d] at h2
            exact absurd rfl h2
          · have : ¬ v2.toInt < 0 := fun z => c (z_le0.mpr z)
            exact ⟨by omega, z_lt d⟩
theorem z_or0 {x : Int32} : x ||| Int32.ofInt 0 = x := Int32.or_zero
theorem zq_120l {p : Nat → Nat} {Jc Jr : Nat → Nat → Int32} {b : Int} (hR : zR (fun i => p (31 + i)) Jc (Jr (p 4))) (hW : zW (Jr (p 4)) b) : ∀ (c : Nat) (a i : Int32), 0 ≤ i.toInt → x120_16 p Jc c a i = x221_13 p Jr c a i := by
  intro c
  induction c with
  | zero => intro a i h; rfl
  | succ c ih =>
    intro a i h
    rw [x120_16, x221_13, show Jc (p 32) 1 = Jr (p 4) 1 from zR_n hR (by omega)]
    by_cases h1 : Jr (p 4) 1 ≤ i
    · rw [if_pos h1, if_pos h1]
    · rw [if_neg h1, if_neg h1, zq_76 hR hW ⟨h, z_lt h1⟩, zq_76 hR hW ⟨h, z_lt h1⟩, z_or0, ih _ _ (zi_i h1 h), ih _ _ (zi_i h1 h)]
theorem z_told {q : Nat → Nat} {p : Nat → Nat} {Jc Jr : Nat → Nat → Int32} (hR : zR q Jc (Jr (p 4))) (hW : xr_W (Jr (p 4))) : (Jc (q 0) 1 = 0 ↔ x188 p Jr = 0) := by
  have b := xr_0 hW
  unfold x188
  rw [hR.2]
  by_cases h : Jr (p 4) 0 = 0
  · rw [if_pos h, h, if_pos (by decide)]
    exact Iff.rfl
  · rw [if_neg h, if_neg]
    · exact ⟨fun c => absurd c (by decide), fun c => absurd c (by decide)⟩
    · intro c
      have c := z_ge.mp c
      rw [show (0 : Int32).toInt = 0 from by decide] at c
      exact h (Int32.toInt_inj.mp (by rw [show (0 : Int32).toInt = 0 from by decide]; omega))
theorem zq_120 {p : Nat → Nat} {Jc Jr : Nat → Nat → Int32} {b : Int} (hR : zR (fun i => p (31 + i)) Jc (Jr (p 4))) (hW : zW (Jr (p 4)) b) : x120 p Jc = x221 p Jr := by
  have t := z_told hR hW.w
  unfold x120 x221
  by_cases h : x188 p Jr = 0
  · rw [if_pos (t.mpr h), if_pos h]
  · rw [if_neg (fun c => h (t.mp c)), if_neg h, show Jc (p 32) 1 = Jr (p 4) 1 from zR_n hR (by omega)]
    exact zq_120l hR hW _ _ _ (by decide)
theorem zq_79l {q p : Nat → Nat} {Jc Jr : Nat → Nat → Int32} (hR : zR q Jc (Jr (p 4))) (hW : xr_W (Jr (p 4))) : ∀ (c : Nat) (a i : Int32), 0 ≤ i.toInt → x79_4 q Jc c a i = x228_4 p Jr c a i := by
  intro c
  induction c with
  | zero => intro a i h; rfl
  | succ c ih =>
    intro a i h
    rw [x79_4, x228_4, zR_n hR (by omega)]
    by_cases h1 : Jr (p 4) 1 ≤ i
    · rw [if_pos h1, if_pos h1]
    · have s := zS hR hW h (z_lt h1)
      rw [if_neg h1, if_neg h1, s.2.2.1, s.2.2.2.2.2.1, z_or0, ih _ _ (zi_i h1 h), ih _ _ (zi_i h1 h)]
theorem zq_79 {q p : Nat → Nat} {Jc Jr : Nat → Nat → Int32} (hR : zR q Jc (Jr (p 4))) (hW : xr_W (Jr (p 4))) : x79 q Jc = x228 p Jr := by
  unfold x79 x228
  rw [zR_n hR (by omega)]
  exact zq_79l hR hW _ _ _ (by decide)
end
section
/-! rows kept and put back; days and ahead as calls -/
theorem zkp_l {p : Nat → Nat} (hn : p 4 ≠ p 7) : ∀ (c : Nat) (i : Int32) (J : Nat → Nat → Int32), 0 ≤ i.toInt → 212 - i.toInt ≤ c → (∀ j, i.toNatClampNeg ≤ j → j < 212 → x227_2 p c i J (p 7) j = J (p 4) j) ∧ (∀ j, j < i.toNatClampNeg → x227_2 p c i J (p 7) j = J (p 7) j) := by
  intro c
  induction c with
  | zero =>
    intro i J h hc
    have t := z_tn h
    exact ⟨fun j a b => by omega, fun j a => rfl⟩
  | succ c ih =>
    intro i J h hc
    have t := z_tn h
    rw [x227_2]
    by_cases h1 : Int32.ofInt 212 ≤ i
    · rw [if_pos h1]
      have h1 := z_ge.mp h1
      rw [show (Int32.ofInt 212).toInt = 212 from by decide] at h1
      exact ⟨fun j a b => by omega, fun j a => rfl⟩
    · rw [if_neg h1]
      have l := z_lt h1
      rw [show (Int32.ofInt 212).toInt = 212 from by decide] at l
      have hc' : (Int32.ofInt 212).toInt - i.toInt ≤ (c + 1 : Nat) := by
        rw [show (Int32.ofInt 212).toInt = 212 from by decide]
        exact hc
      have d := lx_dec h1 hc'
      rw [show (Int32.ofInt 212).toInt = 212 from by decide] at d
      have z := ih (i + Int32.ofInt 1) (nt_u J (p 7) i.toNatClampNeg (J (p 4) i.toNatClampNeg)) (xi_nn h1 h) d
      have i1 : (i + Int32.ofInt 1).toNatClampNeg = i.toNatClampNeg + 1 := by
        rw [zn_t, zn_t, lx_inc h1]
        omega
      rw [i1] at z
      refine ⟨fun j a b => ?_, fun j a => ?_⟩
      · by_cases e : j = i.toNatClampNeg
        · rw [e, z.2 _ (by omega), me_us]
        · rw [z.1 j (by omega) b, me_uo hn]
      · rw [z.2 j (by omega), me_uk (by omega)]
theorem zkp {p : Nat → Nat} {J : Nat → Nat → Int32} (hn : p 4 ≠ p 7) {j : Nat} (hj : j < 212) : x227 p J (p 7) j = J (p 4) j := (zkp_l hn ((Int32.ofInt 212).toNatClampNeg) (Int32.ofInt 0) J (by decide) (by decide)).1 j (Nat.zero_le _) hj
theorem zpb_l {p : Nat → Nat} (hn : p 7 ≠ p 4) : ∀ (c : Nat) (i : Int32) (J : Nat → Nat → Int32), 0 ≤ i.toInt → 212 - i.toInt ≤ c → (∀ j, i.toNatClampNeg ≤ j → j < 212 → x229_2 p c i J (p 4) j = J (p 7) j) ∧ (∀ j, j < i.toNatClampNeg ∨ 212 ≤ j → x229_2 p c i J (p 4) j = J (p 4) j) := by
  intro c
  induction c with
  | zero =>
    intro i J h hc
    have t := z_tn h
    exact ⟨fun j a b => by omega, fun j a => rfl⟩
  | succ c ih =>
    intro i J h hc
    have t := z_tn h
    rw [x229_2]
    by_cases h1 : Int32.ofInt 212 ≤ i
    · rw [if_pos h1]
      have h1 := z_ge.mp h1
      rw [show (Int32.ofInt 212).toInt = 212 from by decide] at h1
      exact ⟨fun j a b => by omega, fun j a => rfl⟩
    · rw [if_neg h1]
      have l := z_lt h1
      rw [show (Int32.ofInt 212).toInt = 212 from by decide] at l
      have hc' : (Int32.ofInt 212).toInt - i.toInt ≤ (c + 1 : Nat) := by
        rw [show (Int32.ofInt 212).toInt = 212 from by decide]
        exact hc
      have d := lx_dec h1 hc'
      rw [show (Int32.ofInt 212).toInt = 212 from by decide] at d
      have z := ih (i + Int32.ofInt 1) (nt_u J (p 4) i.toNatClampNeg (J (p 7) i.toNatClampNeg)) (xi_nn h1 h) d
      have i1 : (i + Int32.ofInt 1).toNatClampNeg = i.toNatClampNeg + 1 := by
        rw [zn_t, zn_t, lx_inc h1]
        omega
      rw [i1] at z
      refine ⟨fun j a b => ?_, fun j a => ?_⟩
      · by_cases e : j = i.toNatClampNeg
        · rw [e, z.2 _ (by omega), me_us]
        · rw [z.1 j (by omega) b, me_uo hn]
      · rw [z.2 j (by omega), me_uk (by omega)]
theorem zpb {p : Nat → Nat} {J : Nat → Nat → Int32} (hn : p 7 ≠ p 4) : (∀ j, j < 212 → x229 p J (p 4) j = J (p 7) j) ∧ (∀ j, 212 ≤ j → x229 p J (p 4) j = J (p 4) j) := by
  have z := zpb_l hn ((Int32.ofInt 212).toNatClampNeg) (Int32.ofInt 0) J (by decide) (by decide)
  exact ⟨fun j hj => z.1 j (Nat.zero_le _) hj, fun j hj => z.2 j (Or.inr hj)⟩
/-- there is a yard, and the rule -/
theorem zmay {q p : Nat → Nat} {Jc Jr : Nat → Nat → Int32} {v1 : Int32} (hR : zR q Jc (Jr (p 4))) (hW : xr_W (Jr (p 4))) (h4 : Jc (p 16) 4 = Jr (p 0) 2) (h0 : 0 ≤ (Jr (p 0) 2).toInt) : (¬ Jc (q 0) 1 = 0 ∧ ¬ x111 p v1 Jc = 0) ↔ ¬ x187 p v1 Jr = 0 := by
  have t := z_told hR hW
  have m1 : (Int32.ofInt (-1)).toInt = -1 := xi_m1
  unfold x111 x187
  rw [h4]
  by_cases a : x188 p Jr = 0
  · rw [if_pos a]
    exact ⟨fun c => absurd (t.mpr a) c.1, fun c => absurd rfl c⟩
  · rw [if_neg a]
    have ta : ¬ Jc (q 0) 1 = 0 := fun c => a (t.mp c)
    by_cases b : v1 = Int32.ofInt (-1)
    · have n1 : ¬ v1 < Int32.ofInt (-1) := by rw [b]; decide
      have n2 : ¬ Jr (p 0) 2 ≤ v1 := fun c => by
        have c := z_ge.mp c
        rw [b, m1] at c
        omega
      rw [if_pos b, if_neg n1, if_neg n2]
      exact ⟨fun _ => by decide, fun _ => ⟨ta, by decide⟩⟩
    · rw [if_neg b]
      unfold x189
      by_cases c : v1 < 0
      · rw [if_pos c, if_pos (show Int32.ofInt 0 = 0 from rfl)]
        have n1 : v1 < Int32.ofInt (-1) := by
          have c := z_le0.mp c
          have : v1.toInt ≠ -1 := fun e => b (Int32.toInt_inj.mp (e.trans m1.symm))
          exact Int32.lt_iff_toInt_lt.mpr (by rw [m1]; omega)
        rw [if_pos n1]
        exact ⟨fun z => absurd rfl z.2, fun z => absurd rfl z⟩
      · rw [if_neg c]
        have n1 : ¬ v1 < Int32.ofInt (-1) := fun z => by
          have z := Int32.lt_iff_toInt_lt.mp z
          rw [m1] at z
          exact c (z_le0.mpr (by omega))
        rw [if_neg n1]
        by_cases e : Jr (p 0) 2 ≤ v1
        · rw [if_pos e, if_pos (show Int32.ofInt 0 = 0 from rfl)]
          exact ⟨fun z => absurd rfl z.2, fun z => absurd rfl z⟩
        · rw [if_neg e, if_neg (show ¬ Int32.ofInt 1 = 0 from by decide)]
          exact ⟨fun _ => by decide, fun _ => ⟨ta, by decide⟩⟩
end
