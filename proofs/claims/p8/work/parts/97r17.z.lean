/-! sets of voyages -/
theorem zt_or : ∀ n, n < 256 → ∀ i, i < 8 → (nI n ||| (Int32.ofInt 1 <<< (nI i &&& 31)) = nI (n ||| (1 <<< i)) ∧ n ||| (1 <<< i) < 256) := by decide +kernel
theorem zt_bit : ∀ n, n < 256 → ∀ i, i < 8 → ∀ j, j < 8 → x209 (nI (n ||| (1 <<< i))) (nI j) = (if j = i then Int32.ofInt 1 else x209 (nI n) (nI j)) := by decide +kernel
theorem zt_0 : ∀ j, j < 8 → x209 (nI 0) (nI j) = Int32.ofInt 0 := by decide +kernel
theorem zt_sh : ∀ m, m < 9 → (1 ≤ (Int32.ofInt 1 <<< (nI m &&& 31)).toInt ∧ (Int32.ofInt 1 <<< (nI m &&& 31)).toInt ≤ 256) ∧ (m < 7 → (Int32.ofInt 1 <<< (nI m &&& 31)).toInt ≤ 64) := by decide +kernel
theorem z_nI {x : Int32} (h0 : 0 ≤ x.toInt) (h1 : x.toInt < 100000) : x = nI x.toNatClampNeg := by
  have t := z_tn h0
  exact Int32.toInt_inj.mp (by rw [nI_toInt (by omega)]; exact t)
theorem z_nt {n : Nat} (h : n < 100000) : (nI n).toNatClampNeg = n := nI_clamp (by omega)
/-- those of a set that are at sea on a day -/
theorem zuw_l {p : Nat → Nat} {J Jr : Nat → Nat → Int32} {s d : Int32} (hR : zR (fun i => p (31 + i)) J (Jr (p 4))) (hW : xr_W (Jr (p 4))) : ∀ (c : Nat) (i : Int32) (n : Nat), 0 ≤ i.toInt → (Jr (p 4) 3).toInt - i.toInt ≤ c → n < 256 → ∃ m, m < 256 ∧ x16_5 p s d J c (nI n) i = nI m ∧ ∀ j, j < 8 → x209 (nI m) (nI j) = (if i.toNatClampNeg ≤ j ∧ j < zn (Jr (p 4)) 3 ∧ ¬ x208 p s (nI j) d Jr = 0 then Int32.ofInt 1 else x209 (nI n) (nI j)) := by
  have bb := zn_b hW
  intro c
  induction c with
  | zero =>
    intro i n h hc hn
    have t := z_tn h
    exact ⟨n, hn, rfl, fun j hj => by rw [if_neg (fun x => by omega)]⟩
  | succ c ih =>
    intro i n h hc hn
    have t := z_tn h
    rw [x16_5, show J (p 32) 3 = Jr (p 4) 3 from zR_n hR (i := 3) (by omega)]
    by_cases h1 : Jr (p 4) 3 ≤ i
    · rw [if_pos h1]
      have h1 := z_ge.mp h1
      exact ⟨n, hn, rfl, fun j hj => by rw [if_neg (fun x => by omega)]⟩
    · obtain ⟨hv, hi, v0, v1, v2, v3, v4, u0, u1, u2, u3, u4⟩ := zV hR hW h h1
      have v1 : J (p 38) i.toNatClampNeg = Jr (p 4) (172 + 5 * i.toNatClampNeg + 1) := v1
      have v2 : J (p 39) i.toNatClampNeg = Jr (p 4) (172 + 5 * i.toNatClampNeg + 2) := v2
      have i1 : (i + Int32.ofInt 1).toNatClampNeg = i.toNatClampNeg + 1 := zx_i h1 h
      have ei : nI i.toNatClampNeg = i := (z_nI h (by omega)).symm
      have s208 : ∀ y, x208 p s (nI i.toNatClampNeg) d Jr = y ↔ (if x209 s i = 0 then Int32.ofInt 0 else if d < Jr (p 4) (172 + 5 * i.toNatClampNeg + 1) then Int32.ofInt 0 else if Jr (p 4) (172 + 5 * i.toNatClampNeg + 2) ≤ d then Int32.ofInt 0 else Int32.ofInt 1) = y := fun y => by
        rw [ei]
        unfold x208
        rw [u1, u2]
      have no : x208 p s (nI i.toNatClampNeg) d Jr = 0 → ∃ m, m < 256 ∧ x16_5 p s d J c (nI n) (i + Int32.ofInt 1) = nI m ∧ ∀ j, j < 8 → x209 (nI m) (nI j) = (if i.toNatClampNeg ≤ j ∧ j < zn (Jr (p 4)) 3 ∧ ¬ x208 p s (nI j) d Jr = 0 then Int32.ofInt 1 else x209 (nI n) (nI j)) := fun z => by
        obtain ⟨m, m1, m2, m3⟩ := ih (i + Int32.ofInt 1) n (zi_i h1 h) (lx_dec h1 hc) hn
        refine ⟨m, m1, m2, fun j hj => ?_⟩
        rw [m3 j hj, i1]
        by_cases e : j = i.toNatClampNeg
        · rw [if_neg (fun x => by omega), if_neg (fun x => by rw [e] at x; exact x.2.2 z)]
        · by_cases q : i.toNatClampNeg ≤ j ∧ j < zn (Jr (p 4)) 3 ∧ ¬ x208 p s (nI j) d Jr = 0
          · rw [if_pos q, if_pos ⟨by omega, q.2⟩]
          · rw [if_neg q, if_neg (fun x => q ⟨by omega, x.2⟩)]
      rw [if_neg h1, z_has, v1, v2]
      by_cases a : x209 s i = 0
      · rw [if_pos a]
        exact no ((s208 _).mpr (by rw [if_pos a]; rfl))
      · rw [if_neg a]
        by_cases b : d < Jr (p 4) (172 + 5 * i.toNatClampNeg + 1)
        · rw [if_pos b]
          exact no ((s208 _).mpr (by rw [if_neg a, if_pos b]; rfl))
        · rw [if_neg b]
          by_cases e : Jr (p 4) (172 + 5 * i.toNatClampNeg + 2) ≤ d
          · rw [if_pos e]
            exact no ((s208 _).mpr (by rw [if_neg a, if_neg b, if_pos e]; rfl))
          · have one : ¬ x208 p s (nI i.toNatClampNeg) d Jr = 0 := by
              rw [(s208 (Int32.ofInt 1)).mpr (by rw [if_neg a, if_neg b, if_neg e])]
              decide
            have l8 : i.toNatClampNeg < 8 := by omega
            obtain ⟨o1, o2⟩ := zt_or n hn i.toNatClampNeg l8
            rw [ei] at o1
            rw [if_neg e, o1]
            obtain ⟨m, m1, m2, m3⟩ := ih (i + Int32.ofInt 1) (n ||| (1 <<< i.toNatClampNeg)) (zi_i h1 h) (lx_dec h1 hc) o2
            refine ⟨m, m1, m2, fun j hj => ?_⟩
            rw [m3 j hj, i1, zt_bit n hn i.toNatClampNeg l8 j hj]
            by_cases ej : j = i.toNatClampNeg
            · rw [if_neg (fun x => by omega), if_pos ej, if_pos ⟨by omega, by omega, by rw [ej]; exact one⟩]
            · rw [if_neg ej]
              by_cases q : i.toNatClampNeg ≤ j ∧ j < zn (Jr (p 4)) 3 ∧ ¬ x208 p s (nI j) d Jr = 0
              · rw [if_pos q, if_pos ⟨by omega, q.2⟩]
              · rw [if_neg q, if_neg (fun x => q ⟨by omega, x.2⟩)]
theorem z_208 {p : Nat → Nat} {s v d : Int32} {J : Nat → Nat → Int32} : x208 p s v d J = Int32.ofInt 0 ∨ x208 p s v d J = Int32.ofInt 1 := by
  unfold x208
  by_cases a : x209 s v = 0
  · rw [if_pos a]
    exact Or.inl rfl
  · rw [if_neg a]
    by_cases b : d < x180 p v (Int32.ofInt 1) J
    · rw [if_pos b]
      exact Or.inl rfl
    · rw [if_neg b]
      by_cases c : x180 p v (Int32.ofInt 2) J ≤ d
      · rw [if_pos c]
        exact Or.inl rfl
      · rw [if_neg c]
        exact Or.inr rfl
theorem zuw {p : Nat → Nat} {J Jr : Nat → Nat → Int32} {s d : Int32} (hR : zR (fun i => p (31 + i)) J (Jr (p 4))) (hW : xr_W (Jr (p 4))) : ∀ i : Int32, 0 ≤ i.toInt → ¬ Jr (p 4) 3 ≤ i → x209 (x16 p s d J) i = x208 p s i d Jr := by
  intro i h h1
  have bb := zn_b hW
  have lt := z_lt h1
  have t := z_tn h
  obtain ⟨m, m1, m2, m3⟩ := zuw_l (s := s) (d := d) hR hW ((Jr (p 4) 3).toNatClampNeg) (Int32.ofInt 0) 0 (by decide) (by rw [zn_t, show (Int32.ofInt 0).toInt = 0 from by decide]; omega) (by omega)
  have ei : nI i.toNatClampNeg = i := (z_nI h (by omega)).symm
  have q := m3 i.toNatClampNeg (by omega)
  unfold x16
  rw [show J (p 32) 3 = Jr (p 4) 3 from zR_n hR (i := 3) (by omega)]
  rw [zt_0 _ (by omega), ei] at q
  rw [show Int32.ofInt 0 = nI 0 from rfl] at m2 ⊢
  rw [m2, q]
  by_cases a : x208 p s i d Jr = 0
  · rw [if_neg (fun x => x.2.2 a), a]
    rfl
  · rw [if_pos ⟨Nat.zero_le _, by omega, a⟩]
    rcases z_208 (p := p) (s := s) (v := i) (d := d) (J := Jr) with x | x
    · exact absurd x a
    · exact x.symm
/-- what must be, of a kind -/
theorem zq_17l {p : Nat → Nat} {J Jr : Nat → Nat → Int32} {s d u k : Int32} {b : Int} (hR : zR (fun i => p (31 + i)) J (Jr (p 4))) (hW : zW (Jr (p 4)) b) (hk : 0 ≤ k.toInt ∧ k.toInt < (Jr (p 4) 0).toInt) (hu : ∀ i : Int32, 0 ≤ i.toInt → ¬ Jr (p 4) 3 ≤ i → x209 u i = x208 p s i d Jr) : ∀ (c : Nat) (a i : Int32), 0 ≤ i.toInt → x17_5 p u k J c a i = x207_18 p s d k Jr c a i := by
  intro c
  induction c with
  | zero => intro a i h; rfl
  | succ c ih =>
    intro a i h
    rw [x17_5, x207_18, show J (p 32) 3 = Jr (p 4) 3 from zR_n hR (i := 3) (by omega)]
    by_cases h1 : Jr (p 4) 3 ≤ i
    · rw [if_pos h1, if_pos h1]
    · obtain ⟨hn, hi, v0, v1, v2, v3, v4, u0, u1, u2, u3, u4⟩ := zV hR hW.w h h1
      have v0 : J (p 37) i.toNatClampNeg = Jr (p 4) (172 + 5 * i.toNatClampNeg + 0) := v0
      have vo := hW.a.vo _ hn
      have e := zq_87 hR hW.w ⟨vo.1, vo.2.1⟩ hk
      rw [if_neg h1, if_neg h1, z_has, hu i h h1, v0, u0, e.1, e.2, ih _ _ (zi_i h1 h), ih _ _ (zi_i h1 h), z_add0]
theorem zq_17 {p : Nat → Nat} {J Jr : Nat → Nat → Int32} {s d k : Int32} {b : Int} (hR : zR (fun i => p (31 + i)) J (Jr (p 4))) (hW : zW (Jr (p 4)) b) (hk : 0 ≤ k.toInt ∧ k.toInt < (Jr (p 4) 0).toInt) : x17 p (x16 p s d J) k J = x207_18 p s d k Jr ((Jr (p 4) 3).toNatClampNeg) (Int32.ofInt 0) (Int32.ofInt 0) := by
  unfold x17
  rw [show J (p 32) 3 = Jr (p 4) 3 from zR_n hR (i := 3) (by omega)]
  exact zq_17l hR hW hk (zuw hR hW.w) _ _ _ (by decide)
/-- a ship on two -/
theorem zq_18l {p : Nat → Nat} {J Jr : Nat → Nat → Int32} {s d u : Int32} (hR : zR (fun i => p (31 + i)) J (Jr (p 4))) (hW : xr_W (Jr (p 4))) (hu : ∀ i : Int32, 0 ≤ i.toInt → ¬ Jr (p 4) 3 ≤ i → x209 u i = x208 p s i d Jr) : ∀ (c : Nat) (a i : Int32), 0 ≤ i.toInt → x207_90 p s d Jr c a i = (if x18_4 p u J c a i = 0 then Int32.ofInt (-1) else Int32.ofInt 4) := by
  have o0 : Int32.ofInt 0 = 0 := rfl
  intro c
  induction c with
  | zero => intro a i h; exact (if_pos rfl).symm
  | succ c ih =>
    intro a i h
    rw [x18_4, x207_90, show J (p 32) 3 = Jr (p 4) 3 from zR_n hR (i := 3) (by omega)]
    by_cases h1 : Jr (p 4) 3 ≤ i
    · rw [if_pos h1, if_pos h1, if_pos o0]
    · obtain ⟨hn, hi, v0, v1, v2, v3, v4, u0, u1, u2, u3, u4⟩ := zV hR hW h h1
      have v0 : J (p 37) i.toNatClampNeg = Jr (p 4) (172 + 5 * i.toNatClampNeg + 0) := v0
      rw [if_neg h1, if_neg h1, z_has, hu i h h1, z_has, v0, u0]
      by_cases e : x208 p s i d Jr = 0
      · rw [if_pos e, if_pos e]
        exact ih _ _ (zi_i h1 h)
      · rw [if_neg e, if_neg e]
        by_cases g : x209 a (Jr (p 4) (172 + 5 * i.toNatClampNeg + 0)) = 0
        · rw [if_pos g, if_pos g]
          exact ih _ _ (zi_i h1 h)
        · rw [if_neg g, if_neg g, if_neg (show ¬ Int32.ofInt 1 = 0 from by decide)]
theorem zq_15l {p : Nat → Nat} {J Jr : Nat → Nat → Int32} {s d : Int32} {b : Int} (hR : zR (fun i => p (31 + i)) J (Jr (p 4))) (hW : zW (Jr (p 4)) b) (hk : ∀ k, k < 4 → J (p 29) k = x210 p (Int32.ofInt (k : Int)) Jr) : ∀ (c : Nat) (k : Int32), 0 ≤ k.toInt → x15_10 p (x16 p s d J) J c k = x207_2 p s d Jr c k := by
  have bb := zn_b hW.w
  have two : (if x18 p (x16 p s d J) J = 0 then Int32.ofInt (-1) else Int32.ofInt 4) = x207_90 p s d Jr ((Jr (p 4) 3).toNatClampNeg) (Int32.ofInt 0) (Int32.ofInt 0) := by
    rw [zq_18l hR hW.w (zuw hR hW.w) _ _ _ (by decide)]
    unfold x18
    rw [show J (p 32) 3 = Jr (p 4) 3 from zR_n hR (i := 3) (by omega)]
  intro c
  induction c with
  | zero => intro k h; exact two
  | succ c ih =>
    intro k h
    rw [x15_10, x207_2, show J (p 32) 0 = Jr (p 4) 0 from zR_n hR (i := 0) (by omega)]
    by_cases h1 : Jr (p 4) 0 ≤ k
    · rw [if_pos h1, if_pos h1]
      exact two
    · have lt := z_lt h1
      have t := z_tn h
      have ek : Int32.ofInt ((k.toNatClampNeg : Nat) : Int) = k := z_oi h (by omega)
      rw [if_neg h1, if_neg h1, zq_17 hR hW ⟨h, lt⟩, hk k.toNatClampNeg (by omega), ek, ih _ (zi_i h1 h)]
theorem zq_15 {p : Nat → Nat} {J Jr : Nat → Nat → Int32} {s d : Int32} {b : Int} (hR : zR (fun i => p (31 + i)) J (Jr (p 4))) (hW : zW (Jr (p 4)) b) (hk : ∀ k, k < 4 → J (p 29) k = x210 p (Int32.ofInt (k : Int)) Jr) : x15 p s d J = x207 p s d Jr := by
  unfold x15 x207
  rw [show J (p 32) 0 = Jr (p 4) 0 from zR_n hR (i := 0) (by omega)]
  exact zq_15l hR hW hk _ _ (by decide)
/-! which day fails -/
theorem z207 {p : Nat → Nat} {s d : Int32} {J : Nat → Nat → Int32} {b : Int} (hW : zW (J (p 4)) b) : (x207 p s d J < 0 ↔ x207 p s d J = Int32.ofInt (-1)) := by
  have m1 : (Int32.ofInt (-1)).toInt = -1 := xi_m1
  have key : x207 p s d J = Int32.ofInt (-1) ∨ 0 ≤ (x207 p s d J).toInt := by
    unfold x207
    have t : ∀ (c : Nat) (a i : Int32), x207_90 p s d J c a i = Int32.ofInt (-1) ∨ 0 ≤ (x207_90 p s d J c a i).toInt := by
      intro c a i
      refine x207_90_rule (I := fun _ _ _ => True) (Q := fun r => r = Int32.ofInt (-1) ∨ 0 ≤ r.toInt) ?_ ?_ c a i trivial
      · intro v3 v4 _
        exact Or.inl rfl
      · intro c v3 v4 _
        exact z_ite (Or.inl rfl) (z_ite trivial (z_ite trivial (Or.inr (by decide))))
    refine x207_2_rule (I := fun _ v3 => 0 ≤ v3.toInt) (Q := fun r => r = Int32.ofInt (-1) ∨ 0 ≤ r.toInt) ?_ ?_ _ _ (by decide)
    · intro v3 _
      exact t _ _ _
    · intro c v3 h
      by_cases h1 : J (p 4) 0 ≤ v3
      · rw [if_pos h1]
        exact t _ _ _
      · rw [if_neg h1]
        exact z_ite (xi_nn h1 h) (Or.inr h)
  constructor
  · intro h
    rcases key with e | e
    · exact e
    · have := z_le0.mp h
      omega
  · intro h
    rw [h]
    decide
/-- the first of the class, -1 where no voyage's first day fails -/
theorem zq_13l {p : Nat → Nat} {J Jr : Nat → Nat → Int32} {s : Int32} {b : Int} (hR : zR (fun i => p (31 + i)) J (Jr (p 4))) (hW : zW (Jr (p 4)) b) : ∀ (c : Nat) (a i : Int32), 0 ≤ i.toInt → (Jr (p 4) 3).toInt - i.toInt ≤ c → (a = Int32.ofInt (-1) ∨ 0 ≤ a.toInt) → (x13_4 p s J c a i = Int32.ofInt (-1) ↔ a = Int32.ofInt (-1) ∧ ∀ v, i.toNatClampNeg ≤ v → v < zn (Jr (p 4)) 3 → ¬ x209 s (nI v) = 0 → x15 p s (Jr (p 4) (172 + 5 * v + 1)) J = Int32.ofInt (-1)) := by
  have bb := zn_b hW.w
  have m1 : (Int32.ofInt (-1)).toInt = -1 := xi_m1
  intro c
  induction c with
  | zero =>
    intro a i h hc ha
    have t := z_tn h
    show a = Int32.ofInt (-1) ↔ _
    exact ⟨fun x => ⟨x, fun v v1 v2 => by omega⟩, fun x => x.1⟩
  | succ c ih =>
    intro a i h hc ha
    have t := z_tn h
    rw [x13_4, show J (p 32) 3 = Jr (p 4) 3 from zR_n hR (i := 3) (by omega)]
    by_cases h1 : Jr (p 4) 3 ≤ i
    · rw [if_pos h1]
      have h1 := z_ge.mp h1
      exact ⟨fun x => ⟨x, fun v v1 v2 => by omega⟩, fun x => x.1⟩
    · obtain ⟨hn, hi, v0, v1, v2, v3, v4, u0, u1, u2, u3, u4⟩ := zV hR hW.w h h1
      have v1 : J (p 38) i.toNatClampNeg = Jr (p 4) (172 + 5 * i.toNatClampNeg + 1) := v1
      have vo := hW.a.vo _ hn
      have i1 : (i + Int32.ofInt 1).toNatClampNeg = i.toNatClampNeg + 1 := zx_i h1 h
      have ei : nI i.toNatClampNeg = i := (z_nI h (by omega)).symm
      have nx := zi_i h1 h
      have dx := lx_dec h1 hc
      obtain ⟨f, ef⟩ : ∃ f, Jr (p 4) (172 + 5 * i.toNatClampNeg + 1) = f := ⟨_, rfl⟩
      rw [ef] at vo v1
      have f0 : 0 ≤ f.toInt := vo.2.2.1
      have fn : ¬ f = Int32.ofInt (-1) := fun x => by rw [x] at f0; omega
      rw [if_neg h1, z_has, v1]
      have skip : ∀ a', (a' = Int32.ofInt (-1) ∨ 0 ≤ a'.toInt) → (x209 s i = 0 ∨ x15 p s f J = Int32.ofInt (-1)) → (x13_4 p s J c a' (i + Int32.ofInt 1) = Int32.ofInt (-1) ↔ a' = Int32.ofInt (-1) ∧ ∀ v, i.toNatClampNeg ≤ v → v < zn (Jr (p 4)) 3 → ¬ x209 s (nI v) = 0 → x15 p s (Jr (p 4) (172 + 5 * v + 1)) J = Int32.ofInt (-1)) := by
        intro a' ha' hz
        rw [ih a' _ nx dx ha', i1]
        constructor
        · intro ⟨x, y⟩
          refine ⟨x, fun v w1 w2 w3 => ?_⟩
          by_cases e : v = i.toNatClampNeg
          · rw [e] at w3 ⊢
            rw [ei] at w3
            rw [ef]
            rcases hz with z | z
            · exact absurd z w3
            · exact z
          · exact y v (by omega) w2 w3
        · intro ⟨x, y⟩
          exact ⟨x, fun v w1 w2 w3 => y v (by omega) w2 w3⟩
      have dead : ∀ a', 0 ≤ a'.toInt → ¬ x13_4 p s J c a' (i + Int32.ofInt 1) = Int32.ofInt (-1) := by
        intro a' ha' x
        have := ((ih a' _ nx dx (Or.inr ha')).mp x).1
        rw [this] at ha'
        omega
      by_cases g : x209 s i = 0
      · rw [if_pos g]
        exact skip a ha (Or.inl g)
      · rw [if_neg g]
        by_cases am : a = Int32.ofInt (-1)
        · rw [if_pos am]
          by_cases k : x15 p s f J = Int32.ofInt (-1)
          · rw [if_pos k]
            exact skip a ha (Or.inr k)
          · rw [if_neg k]
            exact ⟨fun x => absurd x (dead f f0), fun x => by
              have := x.2 i.toNatClampNeg (Nat.le_refl _) hn (by rw [ei]; exact g)
              rw [ef] at this
              exact absurd this k⟩
        · have a0 : 0 ≤ a.toInt := by
            rcases ha with x | x
            · exact absurd x am
            · exact x
          have no : ∀ r, ¬ r = Int32.ofInt (-1) → (r = Int32.ofInt (-1) ↔ a = Int32.ofInt (-1) ∧ ∀ v, i.toNatClampNeg ≤ v → v < zn (Jr (p 4)) 3 → ¬ x209 s (nI v) = 0 → x15 p s (Jr (p 4) (172 + 5 * v + 1)) J = Int32.ofInt (-1)) := fun r hr => ⟨fun x => absurd x hr, fun x => absurd x.1 am⟩
          rw [if_neg am]
          by_cases q : a ≤ f
          · rw [if_pos q]
            exact no _ (dead a a0)
          · rw [if_neg q]
            by_cases k : x15 p s f J = Int32.ofInt (-1)
            · rw [if_pos k]
              exact no _ (dead a a0)
            · rw [if_neg k]
              exact no _ (dead f f0)
/-- the other's: -1 where no day fails -/
theorem zq_206l {p : Nat → Nat} {s : Int32} {J : Nat → Nat → Int32} : ∀ (c : Nat) (i : Int32), 0 ≤ i.toInt → 99 - i.toInt ≤ c → (x206_2 p s J c i < 0 ↔ ∀ d, i.toNatClampNeg ≤ d → d < 99 → x207 p s (nI d) J < 0) := by
  intro c
  induction c with
  | zero =>
    intro i h hc
    have t := z_tn h
    rw [x206_2]
    exact ⟨fun _ d d1 d2 => by omega, fun _ => by decide⟩
  | succ c ih =>
    intro i h hc
    have t := z_tn h
    rw [x206_2]
    by_cases h1 : Int32.ofInt 99 ≤ i
    · rw [if_pos h1]
      have h1 := z_ge.mp h1
      rw [show (Int32.ofInt 99).toInt = 99 from by decide] at h1
      exact ⟨fun _ d d1 d2 => by omega, fun _ => by decide⟩
    · rw [if_neg h1]
      have l := z_lt h1
      rw [show (Int32.ofInt 99).toInt = 99 from by decide] at l
      have hc' : (Int32.ofInt 99).toInt - i.toInt ≤ (c + 1 : Nat) := by
        rw [show (Int32.ofInt 99).toInt = 99 from by decide]
        exact hc
      have d := lx_dec h1 hc'
      rw [show (Int32.ofInt 99).toInt = 99 from by decide] at d
      have i1 : (i + Int32.ofInt 1).toNatClampNeg = i.toNatClampNeg + 1 := by
        rw [zn_t, zn_t, lx_inc h1]
        omega
      have ei : nI i.toNatClampNeg = i := (z_nI h (by omega)).symm
      by_cases g : x207 p s i J < 0
      · rw [if_pos g, ih _ (xi_nn h1 h) d, i1]
        exact ⟨fun x d d1 d2 => by
          by_cases e : d = i.toNatClampNeg
          · rw [e, ei]
            exact g
          · exact x d (by omega) d2, fun x d d1 d2 => x d (by omega) d2⟩
      · rw [if_neg g]
        exact ⟨fun x => by have := z_le0.mp x; omega, fun x => by
          have := x i.toNatClampNeg (Nat.le_refl _) (by omega)
          rw [ei] at this
          exact absurd this g⟩
/-- -1: of no kind too few, and no ship on two -/
theorem zq_207 {p : Nat → Nat} {s d : Int32} {J : Nat → Nat → Int32} {b : Int} (hW : zW (J (p 4)) b) : x207 p s d J = Int32.ofInt (-1) ↔ (∀ k : Int32, 0 ≤ k.toInt → k.toInt < (J (p 4) 0).toInt → (x207_18 p s d k J ((J (p 4) 3).toNatClampNeg) (Int32.ofInt 0) (Int32.ofInt 0)) ≤ x210 p k J) ∧ x207_90 p s d J ((J (p 4) 3).toNatClampNeg) (Int32.ofInt 0) (Int32.ofInt 0) = Int32.ofInt (-1) := by
  have bb := zn_b hW.w
  have key : ∀ (c : Nat) (i : Int32), 0 ≤ i.toInt → (J (p 4) 0).toInt - i.toInt ≤ c → (x207_2 p s d J c i = Int32.ofInt (-1) ↔ (∀ k : Int32, i.toInt ≤ k.toInt → k.toInt < (J (p 4) 0).toInt → (x207_18 p s d k J ((J (p 4) 3).toNatClampNeg) (Int32.ofInt 0) (Int32.ofInt 0)) ≤ x210 p k J) ∧ x207_90 p s d J ((J (p 4) 3).toNatClampNeg) (Int32.ofInt 0) (Int32.ofInt 0) = Int32.ofInt (-1)) := by
    intro c
    induction c with
    | zero =>
      intro i h hc
      rw [x207_2]
      exact ⟨fun x => ⟨fun k k1 k2 => by omega, x⟩, fun x => x.2⟩
    | succ c ih =>
      intro i h hc
      rw [x207_2]
      by_cases h1 : J (p 4) 0 ≤ i
      · rw [if_pos h1]
        have h1 := z_ge.mp h1
        exact ⟨fun x => ⟨fun k k1 k2 => by omega, x⟩, fun x => x.2⟩
      · rw [if_neg h1]
        have l := z_lt h1
        by_cases g : (x207_18 p s d i J ((J (p 4) 3).toNatClampNeg) (Int32.ofInt 0) (Int32.ofInt 0)) ≤ x210 p i J
        · rw [if_pos g, ih _ (xi_nn h1 h) (lx_dec h1 hc), lx_inc h1]
          exact ⟨fun x => ⟨fun k k1 k2 => by
            by_cases e : k = i
            · rw [e]
              exact g
            · exact x.1 k (by have : k.toInt ≠ i.toInt := fun y => e (Int32.toInt_inj.mp y); omega) k2, x.2⟩, fun x => ⟨fun k k1 k2 => x.1 k (by omega) k2, x.2⟩⟩
        · rw [if_neg g]
          exact ⟨fun x => by rw [x] at h; exact absurd h (by decide), fun x => absurd (x.1 i (Int.le_refl _) l) g⟩
  unfold x207
  rw [key _ (Int32.ofInt 0) (by decide) (by rw [zn_t, show (Int32.ofInt 0).toInt = 0 from by decide]; omega), show (Int32.ofInt 0).toInt = 0 from by decide]
/-- fewer at sea, less must be -/
theorem zmo_l {p : Nat → Nat} {s d f k : Int32} {J : Nat → Nat → Int32} {b : Int} (hW : zW (J (p 4)) b) (hk : 0 ≤ k.toInt ∧ k.toInt < (J (p 4) 0).toInt) (hs : ∀ i : Int32, 0 ≤ i.toInt → ¬ J (p 4) 3 ≤ i → ¬ x208 p s i d J = 0 → ¬ x208 p s i f J = 0) : ∀ (c : Nat) (a a' i : Int32), 0 ≤ i.toInt → i.toInt ≤ (J (p 4) 3).toInt → 0 ≤ a.toInt → a.toInt ≤ a'.toInt → a'.toInt ≤ 5 * i.toInt → (x207_18 p s d k J c a i).toInt ≤ (x207_18 p s f k J c a' i).toInt := by
  have bb := zn_b hW.w
  intro c
  induction c with
  | zero => intro a a' i h hi a0 aa h5; exact aa
  | succ c ih =>
    intro a a' i h hi a0 aa h5
    rw [x207_18, x207_18]
    by_cases h1 : J (p 4) 3 ≤ i
    · rw [if_pos h1, if_pos h1]
      exact aa
    · have lt := z_lt h1
      have x := zx bb.2.2.2.2.2.2.2 h h1
      have vo := hW.a.vo _ x.1
      have u0 : x180 p i (Int32.ofInt 0) J = J (p 4) (172 + 5 * i.toNatClampNeg + 0) := zx_v (k := 0) h (by omega) (by omega)
      have mu : 0 ≤ (x169 p (x180 p i (Int32.ofInt 0) J) k J).toInt ∧ (x169 p (x180 p i (Int32.ofInt 0) J) k J).toInt ≤ 5 := by
        have ek : Int32.ofInt ((k.toNatClampNeg : Nat) : Int) = k := z_oi hk.1 (by omega)
        have tk := z_tn hk.1
        have ts := z_tn vo.1
        rw [u0]
        have := zx_s (p := p) (J := J) (i := J (p 4) (172 + 5 * i.toNatClampNeg + 0)) (k := k.toNatClampNeg) vo.1 (by omega) (by omega)
        rw [ek] at this
        rw [this]
        exact hW.a.mu _ (by omega) _ (by omega)
      have nx := zi_i h1 h
      have ix := lx_inc h1
      have z0 : ∀ y : Int32, y + Int32.ofInt 0 = y := fun y => z_add0
      have ad : ∀ y : Int32, 0 ≤ y.toInt → y.toInt ≤ 1000 → (y + x169 p (x180 p i (Int32.ofInt 0) J) k J).toInt = y.toInt + (x169 p (x180 p i (Int32.ofInt 0) J) k J).toInt := fun y y0 y1 => by
        rw [Int32.toInt_add, Int.bmod_eq_of_le (by omega) (by omega)]
      rw [if_neg h1, if_neg h1, z0, z0]
      by_cases g : x208 p s i d J = 0
      · rw [if_pos g]
        by_cases g' : x208 p s i f J = 0
        · rw [if_pos g']
          exact ih _ _ _ nx (by omega) a0 aa (by omega)
        · rw [if_neg g']
          have := ad a' (by omega) (by omega)
          exact ih _ _ _ nx (by omega) a0 (by omega) (by omega)
      · rw [if_neg g, if_neg (hs i h h1 g)]
        have e1 := ad a (by omega) (by omega)
        have e2 := ad a' (by omega) (by omega)
        exact ih _ _ _ nx (by omega) (by omega) (by omega) (by omega)
theorem zmt_l {p : Nat → Nat} {s d f : Int32} {J : Nat → Nat → Int32} {b : Int} (hW : zW (J (p 4)) b) (hs : ∀ i : Int32, 0 ≤ i.toInt → ¬ J (p 4) 3 ≤ i → ¬ x208 p s i d J = 0 → ¬ x208 p s i f J = 0) : ∀ (c n n' : Nat) (i : Int32), 0 ≤ i.toInt → n < 256 → n' < 256 → (∀ j, j < 8 → ¬ x209 (nI n) (nI j) = 0 → ¬ x209 (nI n') (nI j) = 0) → x207_90 p s f J c (nI n') i = Int32.ofInt (-1) → x207_90 p s d J c (nI n) i = Int32.ofInt (-1) := by
  have bb := zn_b hW.w
  intro c
  induction c with
  | zero => intro n n' i h hn hn' hsub hf; rfl
  | succ c ih =>
    intro n n' i h hn hn' hsub hf
    rw [x207_90] at hf ⊢
    by_cases h1 : J (p 4) 3 ≤ i
    · rw [if_pos h1]
    · rw [if_neg h1] at hf ⊢
      have x := zx bb.2.2.2.2.2.2.2 h h1
      have vo := hW.a.vo _ x.1
      have u0 : x180 p i (Int32.ofInt 0) J = J (p 4) (172 + 5 * i.toNatClampNeg + 0) := zx_v (k := 0) h (by omega) (by omega)
      obtain ⟨S, eS⟩ : ∃ S, J (p 4) (172 + 5 * i.toNatClampNeg + 0) = S := ⟨_, rfl⟩
      rw [eS] at u0 vo
      have ts := z_tn vo.1
      have l8 : S.toNatClampNeg < 8 := by omega
      have e8 : nI S.toNatClampNeg = S := (z_nI vo.1 (by omega)).symm
      have nx := zi_i h1 h
      rw [u0] at hf ⊢
      by_cases g' : x208 p s i f J = 0
      · rw [if_pos g'] at hf
        have g : x208 p s i d J = 0 := Classical.byContradiction fun y => hs i h h1 y g'
        rw [if_pos g]
        exact ih n n' _ nx hn hn' hsub hf
      · rw [if_neg g'] at hf
        by_cases k' : x209 (nI n') S = 0
        · rw [if_pos k'] at hf
          obtain ⟨o1, o2⟩ := zt_or n' hn' S.toNatClampNeg l8
          rw [e8] at o1
          rw [o1] at hf
          have sub2 : ∀ j, j < 8 → ¬ x209 (nI n) (nI j) = 0 → ¬ x209 (nI (n' ||| (1 <<< S.toNatClampNeg))) (nI j) = 0 := by
            intro j hj q
            rw [zt_bit n' hn' S.toNatClampNeg l8 j hj]
            by_cases e : j = S.toNatClampNeg
            · rw [if_pos e]
              decide
            · rw [if_neg e]
              exact hsub j hj q
          by_cases g : x208 p s i d J = 0
          · rw [if_pos g]
            exact ih n _ _ nx hn o2 sub2 hf
          · rw [if_neg g]
            have k : x209 (nI n) S = 0 := Classical.byContradiction fun y => by
              have := hsub S.toNatClampNeg l8 (by rw [e8]; exact y)
              rw [e8] at this
              exact this k'
            rw [if_pos k]
            obtain ⟨q1, q2⟩ := zt_or n hn S.toNatClampNeg l8
            rw [e8] at q1
            rw [q1]
            refine ih _ _ _ nx q2 o2 (fun j hj q => ?_) hf
            rw [zt_bit n hn S.toNatClampNeg l8 j hj] at q
            rw [zt_bit n' hn' S.toNatClampNeg l8 j hj]
            by_cases e : j = S.toNatClampNeg
            · rw [if_pos e]
              decide
            · rw [if_neg e] at q ⊢
              exact hsub j hj q
        · rw [if_neg k'] at hf
          exact absurd hf (by decide)
theorem zmono {p : Nat → Nat} {s d f : Int32} {J : Nat → Nat → Int32} {b : Int} (hW : zW (J (p 4)) b) (hs : ∀ i : Int32, 0 ≤ i.toInt → ¬ J (p 4) 3 ≤ i → ¬ x208 p s i d J = 0 → ¬ x208 p s i f J = 0) (h : x207 p s f J = Int32.ofInt (-1)) : x207 p s d J = Int32.ofInt (-1) := by
  have bb := zn_b hW.w
  have z0 : (Int32.ofInt 0).toInt = 0 := by decide
  obtain ⟨h1, h2⟩ := (zq_207 hW).mp h
  refine (zq_207 hW).mpr ⟨fun k k0 k1 => ?_, zmt_l hW hs _ 0 0 _ (by decide) (by omega) (by omega) (fun j hj q => q) h2⟩
  have a := Int32.le_iff_toInt_le.mp (h1 k k0 k1)
  have m := zmo_l hW ⟨k0, k1⟩ hs ((J (p 4) 3).toNatClampNeg) (Int32.ofInt 0) (Int32.ofInt 0) (Int32.ofInt 0) (by decide) (by rw [z0]; omega) (by decide) (Int.le_refl _) (by decide)
  exact Int32.le_iff_toInt_le.mpr (by omega)
/-- nobody at sea: nothing fails -/
theorem zempty {p : Nat → Nat} {s d : Int32} {J : Nat → Nat → Int32} {b : Int} (hW : zW (J (p 4)) b) (hs : ∀ i : Int32, 0 ≤ i.toInt → ¬ J (p 4) 3 ≤ i → x208 p s i d J = 0) : x207 p s d J = Int32.ofInt (-1) := by
  have bb := zn_b hW.w
  have e18 : ∀ (k : Int32) (c : Nat) (i : Int32), 0 ≤ i.toInt → x207_18 p s d k J c (Int32.ofInt 0) i = Int32.ofInt 0 := by
    intro k c
    induction c with
    | zero => intro i h; rfl
    | succ c ih =>
      intro i h
      rw [x207_18]
      by_cases h1 : J (p 4) 3 ≤ i
      · rw [if_pos h1]
      · rw [if_neg h1, if_pos (hs i h h1), z_add0]
        exact ih _ (zi_i h1 h)
  have e90 : ∀ (c : Nat) (a i : Int32), 0 ≤ i.toInt → x207_90 p s d J c a i = Int32.ofInt (-1) := by
    intro c
    induction c with
    | zero => intro a i h; rfl
    | succ c ih =>
      intro a i h
      rw [x207_90]
      by_cases h1 : J (p 4) 3 ≤ i
      · rw [if_pos h1]
      · rw [if_neg h1, if_pos (hs i h h1)]
        exact ih _ _ (zi_i h1 h)
  refine (zq_207 hW).mpr ⟨fun k k0 k1 => ?_, e90 _ _ _ (by decide)⟩
  rw [e18 k _ _ (by decide), Int32.le_iff_toInt_le, show (Int32.ofInt 0).toInt = 0 from by decide]
  unfold x210
  refine x210_4_rule (I := fun _ a i => 0 ≤ a.toInt ∧ a.toInt ≤ i.toInt ∧ i.toInt ≤ (J (p 4) 2).toInt) (Q := fun r => 0 ≤ r.toInt) ?_ ?_ _ _ _ ⟨by decide, by decide, by rw [show (Int32.ofInt 0).toInt = 0 from by decide]; omega⟩
  · intro a i h
    exact h.1
  · intro c a i h
    by_cases h1 : J (p 4) 2 ≤ i
    · rw [if_pos h1]
      exact h.1
    · rw [if_neg h1]
      have l := z_lt h1
      have ix := lx_inc h1
      have ad : (a + Int32.ofInt 1).toInt = a.toInt + 1 := by
        rw [Int32.toInt_add, show (Int32.ofInt 1).toInt = 1 from by decide, Int.bmod_eq_of_le (by omega) (by omega)]
      have az : a + Int32.ofInt 0 = a := z_add0
      refine z_ite (z_ite ?_ ?_) ?_
      · exact ⟨by omega, by omega, by omega⟩
      · rw [az]
        exact ⟨by omega, by omega, by omega⟩
      · rw [az]
        exact ⟨by omega, by omega, by omega⟩
theorem z_on {p : Nat → Nat} {s i : Int32} {d : Nat} {J : Nat → Nat → Int32} {b : Int} (hW : zW (J (p 4)) b) (hd : d < 1000) (h : 0 ≤ i.toInt) (h1 : ¬ J (p 4) 3 ≤ i) : ¬ x208 p s i (nI d) J = 0 ↔ ¬ x209 s i = 0 ∧ (J (p 4) (172 + 5 * i.toNatClampNeg + 1)).toInt ≤ d ∧ (d : Int) < (J (p 4) (172 + 5 * i.toNatClampNeg + 2)).toInt := by
  have bb := zn_b hW.w
  have x := zx bb.2.2.2.2.2.2.2 h h1
  have u1 : x180 p i (Int32.ofInt 1) J = J (p 4) (172 + 5 * i.toNatClampNeg + 1) := zx_v (k := 1) h (by omega) (by omega)
  have u2 : x180 p i (Int32.ofInt 2) J = J (p 4) (172 + 5 * i.toNatClampNeg + 2) := zx_v (k := 2) h (by omega) (by omega)
  have dt : (nI d).toInt = d := nI_toInt (by omega)
  have o0 : Int32.ofInt 0 = 0 := rfl
  unfold x208
  rw [u1, u2]
  by_cases a : x209 s i = 0
  · rw [if_pos a]
    exact ⟨fun y => absurd o0 y, fun y => absurd a y.1⟩
  · rw [if_neg a]
    by_cases e : nI d < J (p 4) (172 + 5 * i.toNatClampNeg + 1)
    · rw [if_pos e]
      have e := Int32.lt_iff_toInt_lt.mp e
      exact ⟨fun y => absurd o0 y, fun y => by omega⟩
    · rw [if_neg e]
      have e : ¬ (nI d).toInt < (J (p 4) (172 + 5 * i.toNatClampNeg + 1)).toInt := fun y => e (Int32.lt_iff_toInt_lt.mpr y)
      by_cases g : J (p 4) (172 + 5 * i.toNatClampNeg + 2) ≤ nI d
      · rw [if_pos g]
        have g := Int32.le_iff_toInt_le.mp g
        exact ⟨fun y => absurd o0 y, fun y => by omega⟩
      · rw [if_neg g]
        have g : ¬ (J (p 4) (172 + 5 * i.toNatClampNeg + 2)).toInt ≤ (nI d).toInt := fun y => g (Int32.le_iff_toInt_le.mpr y)
        exact ⟨fun _ => ⟨a, by omega, by omega⟩, fun _ => by decide⟩
/-- where no voyage's first day fails, no day fails -/
theorem zdays {p : Nat → Nat} {s : Int32} {J : Nat → Nat → Int32} {b : Int} (hW : zW (J (p 4)) b) (hf : ∀ v, v < zn (J (p 4)) 3 → ¬ x209 s (nI v) = 0 → x207 p s (J (p 4) (172 + 5 * v + 1)) J = Int32.ofInt (-1)) : ∀ d, d < 99 → x207 p s (nI d) J = Int32.ofInt (-1) := by
  have bb := zn_b hW.w
  intro d
  induction d with
  | zero =>
    intro _
    by_cases q : ∃ i : Int32, 0 ≤ i.toInt ∧ ¬ J (p 4) 3 ≤ i ∧ ¬ x208 p s i (nI 0) J = 0
    · obtain ⟨i, i0, i1, i2⟩ := q
      have x := zx bb.2.2.2.2.2.2.2 i0 i1
      have vo := hW.a.vo _ x.1
      obtain ⟨g1, g2, g3⟩ := (z_on hW (by omega) i0 i1).mp i2
      have ei : nI i.toNatClampNeg = i := (z_nI i0 (by omega)).symm
      have e : J (p 4) (172 + 5 * i.toNatClampNeg + 1) = nI 0 := Int32.toInt_inj.mp (by rw [nI_toInt (by omega)]; omega)
      have := hf _ x.1 (by rw [ei]; exact g1)
      rw [e] at this
      exact this
    · exact zempty hW fun i i0 i1 => Classical.byContradiction fun y => q ⟨i, i0, i1, y⟩
  | succ d ih =>
    intro hd
    by_cases q : ∃ i : Int32, 0 ≤ i.toInt ∧ ¬ J (p 4) 3 ≤ i ∧ ¬ x209 s i = 0 ∧ (J (p 4) (172 + 5 * i.toNatClampNeg + 1)).toInt = (d + 1 : Nat)
    · obtain ⟨i, i0, i1, g1, g2⟩ := q
      have x := zx bb.2.2.2.2.2.2.2 i0 i1
      have ei : nI i.toNatClampNeg = i := (z_nI i0 (by omega)).symm
      have e : J (p 4) (172 + 5 * i.toNatClampNeg + 1) = nI (d + 1) := Int32.toInt_inj.mp (by rw [nI_toInt (by omega)]; exact g2)
      have := hf _ x.1 (by rw [ei]; exact g1)
      rw [e] at this
      exact this
    · refine zmono hW (fun i i0 i1 i2 => ?_) (ih (by omega))
      obtain ⟨g1, g2, g3⟩ := (z_on hW (by omega) i0 i1).mp i2
      refine (z_on hW (by omega) i0 i1).mpr ⟨g1, ?_, by omega⟩
      have : ¬ (J (p 4) (172 + 5 * i.toNatClampNeg + 1)).toInt = (d + 1 : Nat) := fun y => q ⟨i, i0, i1, g1, y⟩
      omega
theorem zq_13 {p : Nat → Nat} {J Jr : Nat → Nat → Int32} {s : Int32} {b : Int} (hR : zR (fun i => p (31 + i)) J (Jr (p 4))) (hW : zW (Jr (p 4)) b) (hk : ∀ k, k < 4 → J (p 29) k = x210 p (Int32.ofInt (k : Int)) Jr) : x13 p s J = Int32.ofInt (-1) ↔ x206 p s Jr < 0 := by
  have bb := zn_b hW.w
  have z0 : (Int32.ofInt 0).toInt = 0 := by decide
  have n0 : (Int32.ofInt 0).toNatClampNeg = 0 := rfl
  have a := zq_13l (s := s) hR hW ((Jr (p 4) 3).toNatClampNeg) (Int32.ofInt (-1)) (Int32.ofInt 0) (by decide) (by rw [zn_t, z0]; omega) (Or.inl rfl)
  have c := zq_206l (p := p) (s := s) (J := Jr) ((Int32.ofInt 99).toNatClampNeg) (Int32.ofInt 0) (by decide) (by decide)
  unfold x13 x206
  rw [show J (p 32) 3 = Jr (p 4) 3 from zR_n hR (i := 3) (by omega), a, c, n0]
  constructor
  · intro ⟨_, h⟩ d _ hd
    refine (z207 hW).mpr (zdays hW (fun v v1 v2 => ?_) d hd)
    rw [← zq_15 hR hW hk]
    exact h v (Nat.zero_le _) v1 v2
  · intro h
    refine ⟨rfl, fun v _ v1 v2 => ?_⟩
    have vo := hW.a.vo v v1
    have t := z_tn vo.2.2.1
    have ef : nI (Jr (p 4) (172 + 5 * v + 1)).toNatClampNeg = Jr (p 4) (172 + 5 * v + 1) := (z_nI vo.2.2.1 (by omega)).symm
    rw [zq_15 hR hW hk, ← ef]
    exact (z207 hW).mp (h _ (Nat.zero_le _) (by omega))
