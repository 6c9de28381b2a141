/-! a rule's text gives the same code to both sides -/
theorem zb_15 {n : Nat} (h : n < 2147483648) : ((Int32.ofNat n) &&& Int32.ofInt 15) = Int32.ofNat (n % 16) := by
  apply Int32.toBitVec.inj
  rw [Int32.toBitVec_and]
  apply BitVec.eq_of_toNat_eq
  have e : (Int32.ofInt 15).toBitVec = 15#32 := by decide
  rw [e, Int32.toBitVec_ofNat', Int32.toBitVec_ofNat']
  rw [BitVec.toNat_and, BitVec.toNat_ofNat, BitVec.toNat_ofNat, BitVec.toNat_ofNat]
  have : n % 2 ^ 32 &&& 15 % 2 ^ 32 = (n % 2 ^ 32) % 16 := Nat.and_two_pow_sub_one_eq_mod (n % 2 ^ 32) 4
  rw [this]
  omega
theorem zb_4 {n : Nat} (h : n < 2147483648) : ((Int32.ofNat n) >>> (Int32.ofInt 4 &&& 31)) = Int32.ofNat (n / 16) := by
  apply Int32.toInt_inj.mp
  have e : (Int32.ofInt 4 &&& 31) = 4 := by decide
  rw [e]
  have t : ∀ m : Nat, m < 2147483648 → (Int32.ofNat m).toInt = m := fun m hm => by
    have z : Int32.size = 4294967296 := rfl
    rw [Int32.toInt_ofNat']
    rw [Int.bmod_eq_of_le (by omega) (by omega)]
  show (Int32.ofNat n >>> 4).toBitVec.toInt = _
  rw [Int32.toBitVec_shiftRight, t _ (by omega)]
  have e2 : (BitVec.smod (Int32.toBitVec 4) 32) = 4#32 := by decide
  rw [e2, BitVec.sshiftRight_eq', BitVec.toInt_sshiftRight]
  show (Int32.ofNat n).toInt >>> (4#32).toNat = _
  rw [t n h, show (4#32).toNat = 4 from rfl, Int.shiftRight_eq_div_pow]
  rfl
def zLL (g h : Nat → Int32) (m a n b : Nat) (B : List Int64 → Prop) : Prop := (∀ w, ∃ vs, B vs ∧ ∀ st, zcr w g m a st = some (vs ++ st) ∧ zrr w h n b st = some (vs ++ st)) ∧ (∀ j, a ≤ j → j < a + m → g j ≠ Int32.ofInt 22 ∧ g j ≠ Int32.ofInt 23) ∧ (∀ j, b ≤ j → j < b + n → zwk (h j))
def zJ (e e' : lb_E) (k : Nat) (B : List Int64 → Prop) : Prop := (e.1.1 ≤ e'.1.1) ∧ (e.2.1 ≤ e'.2.1) ∧ (∀ j, j < e.1.1 → e'.1.2 j = e.1.2 j) ∧ (∀ j, j < e.2.1 → e'.2.2 j = e.2.2 j) ∧ (zLL e'.1.2 e'.2.2 (e'.1.1 - e.1.1) e.1.1 (e'.2.1 - e.2.1) e.2.1 B) ∧ (zpc e'.1.2 (e'.1.1 - e.1.1) e.1.1 ≤ k) ∧ (e'.1.1 + e.2.1 = e'.2.1 + e.1.1)
theorem zJ.l1 {e e' : lb_E} {k : Nat} {B : List Int64 → Prop} (h_ : zJ e e' k B) : e.1.1 ≤ e'.1.1 := h_.1
theorem zJ.l2 {e e' : lb_E} {k : Nat} {B : List Int64 → Prop} (h_ : zJ e e' k B) : e.2.1 ≤ e'.2.1 := h_.2.1
theorem zJ.p1 {e e' : lb_E} {k : Nat} {B : List Int64 → Prop} (h_ : zJ e e' k B) : ∀ j, j < e.1.1 → e'.1.2 j = e.1.2 j := h_.2.2.1
theorem zJ.p2 {e e' : lb_E} {k : Nat} {B : List Int64 → Prop} (h_ : zJ e e' k B) : ∀ j, j < e.2.1 → e'.2.2 j = e.2.2 j := h_.2.2.2.1
theorem zJ.s {e e' : lb_E} {k : Nat} {B : List Int64 → Prop} (h_ : zJ e e' k B) : zLL e'.1.2 e'.2.2 (e'.1.1 - e.1.1) e.1.1 (e'.2.1 - e.2.1) e.2.1 B := h_.2.2.2.2.1
theorem zJ.c {e e' : lb_E} {k : Nat} {B : List Int64 → Prop} (h_ : zJ e e' k B) : zpc e'.1.2 (e'.1.1 - e.1.1) e.1.1 ≤ k := h_.2.2.2.2.2.1
theorem zJ.d {e e' : lb_E} {k : Nat} {B : List Int64 → Prop} (h_ : zJ e e' k B) : e'.1.1 + e.2.1 = e'.2.1 + e.1.1 := h_.2.2.2.2.2.2
theorem zJ_r {e : lb_E} : zJ e e 0 (fun vs => vs = []) := by
  refine ⟨Nat.le_refl _, Nat.le_refl _, fun _ _ => rfl, fun _ _ => rfl, ?_, ?_, by omega⟩
  · rw [Nat.sub_self, Nat.sub_self]
    exact ⟨fun w => ⟨[], rfl, fun st => ⟨rfl, rfl⟩⟩, fun j h1 h2 => by omega, fun j h1 h2 => by omega⟩
  · rw [Nat.sub_self]
    exact Nat.le_refl _
theorem zJ_w {e e' : lb_E} {k k' : Nat} {B B' : List Int64 → Prop} (h : zJ e e' k B) (hk : k ≤ k') (hB : ∀ vs, B vs → B' vs) : zJ e e' k' B' :=
  ⟨h.l1, h.l2, h.p1, h.p2, ⟨fun w => by obtain ⟨vs, b, c⟩ := h.s.1 w; exact ⟨vs, hB vs b, c⟩, h.s.2⟩, Nat.le_trans h.c hk, h.d⟩
theorem zJ_t {e e1 e2 : lb_E} {k1 k2 : Nat} {B1 B2 : List Int64 → Prop} (h : zJ e e1 k1 B1) (g : zJ e1 e2 k2 B2) : zJ e e2 (k1 + k2) (fun vs => ∃ v1 v2, B1 v1 ∧ B2 v2 ∧ vs = v2 ++ v1) := by
  have a1 := h.l1
  have a2 := h.l2
  have b1 := g.l1
  have b2 := g.l2
  refine ⟨by omega, by omega, fun j hj => (g.p1 j (by omega)).trans (h.p1 j hj), fun j hj => (g.p2 j (by omega)).trans (h.p2 j hj), ⟨fun w => ?_, fun j h1 h2 => ?_, fun j h1 h2 => ?_⟩, ?_, by have := h.d; have := g.d; omega⟩
  · obtain ⟨v1, c1, d1⟩ := h.s.1 w
    obtain ⟨v2, c2, d2⟩ := g.s.1 w
    refine ⟨v2 ++ v1, ⟨v1, v2, c1, c2, rfl⟩, fun st => ⟨?_, ?_⟩⟩
    · rw [show e2.1.1 - e.1.1 = (e1.1.1 - e.1.1) + (e2.1.1 - e1.1.1) from by omega, zcr_add, zcr_ag (g := e1.1.2) _ _ _ (fun j h1 h2 => g.p1 j (by omega)), (d1 st).1]
      show zcr w e2.1.2 (e2.1.1 - e1.1.1) (e.1.1 + (e1.1.1 - e.1.1)) (v1 ++ st) = _
      rw [show e.1.1 + (e1.1.1 - e.1.1) = e1.1.1 from by omega, (d2 (v1 ++ st)).1, List.append_assoc]
    · rw [show e2.2.1 - e.2.1 = (e1.2.1 - e.2.1) + (e2.2.1 - e1.2.1) from by omega, zrr_add, zrr_ag (g := e1.2.2) _ _ _ (fun j h1 h2 => g.p2 j (by omega)), (d1 st).2]
      show zrr w e2.2.2 (e2.2.1 - e1.2.1) (e.2.1 + (e1.2.1 - e.2.1)) (v1 ++ st) = _
      rw [show e.2.1 + (e1.2.1 - e.2.1) = e1.2.1 from by omega, (d2 (v1 ++ st)).2, List.append_assoc]
  · by_cases c : j < e1.1.1
    · rw [g.p1 j c]
      exact h.s.2.1 j h1 (by omega)
    · exact g.s.2.1 j (by omega) (by omega)
  · by_cases c : j < e1.2.1
    · rw [g.p2 j c]
      exact h.s.2.2 j h1 (by omega)
    · exact g.s.2.2 j (by omega) (by omega)
  · rw [show e2.1.1 - e.1.1 = (e1.1.1 - e.1.1) + (e2.1.1 - e1.1.1) from by omega, zpc_add, zpc_ag (g := e1.1.2) _ _ (fun j h1 h2 => g.p1 j (by omega)), show e.1.1 + (e1.1.1 - e.1.1) = e1.1.1 from by omega]
    have := h.c
    have := g.c
    omega
theorem zem {e : lb_E} {x y : Int32} (h : e.1.1 < 400) : lb_em e x y = ((e.1.1 + 1, fun j => if j = e.1.1 then x else e.1.2 j), (e.2.1 + 1, fun j => if j = e.2.1 then y else e.2.2 j)) := by
  unfold lb_em lb_e lb_a
  rw [if_pos h]
/-- one step more -/
theorem zJ_1 {e e1 : lb_E} {x y : Int32} {k : Nat} {B B' : List Int64 → Prop} (h : zJ e e1 k B) (h4 : e1.1.1 < 400) (hx : x ≠ Int32.ofInt 22 ∧ x ≠ Int32.ofInt 23) (hy : zwk y) (hs : ∀ w vs, B vs → ∃ vs', B' vs' ∧ ∀ st, zcs w x (vs ++ st) = some (vs' ++ st) ∧ zrs w y (vs ++ st) = some (vs' ++ st)) : zJ e (lb_em e1 x y) (k + (if zpu x then 1 else 0)) B' := by
  have a1 := h.l1
  have a2 := h.l2
  rw [zem h4]
  refine ⟨by dsimp only; omega, by dsimp only; omega, fun j hj => ?_, fun j hj => ?_, ⟨fun w => ?_, fun j h1 h2 => ?_, fun j h1 h2 => ?_⟩, ?_, by have := h.d; dsimp only; omega⟩
  · dsimp only
    rw [if_neg (by omega)]
    exact h.p1 j hj
  · dsimp only
    rw [if_neg (by omega)]
    exact h.p2 j hj
  · obtain ⟨vs, b, c⟩ := h.s.1 w
    obtain ⟨vs', b', c'⟩ := hs w vs b
    refine ⟨vs', b', fun st => ⟨?_, ?_⟩⟩
    · dsimp only
      rw [show e1.1.1 + 1 - e.1.1 = (e1.1.1 - e.1.1) + 1 from by omega, zcr_add, zcr_ag (g := e1.1.2) _ _ _ (fun j h1 h2 => if_neg (by omega)), (c st).1]
      show (zcs w (if e.1.1 + (e1.1.1 - e.1.1) = e1.1.1 then x else _) (vs ++ st)).bind _ = _
      rw [if_pos (by omega), (c' st).1]
      rfl
    · dsimp only
      rw [show e1.2.1 + 1 - e.2.1 = (e1.2.1 - e.2.1) + 1 from by omega, zrr_add, zrr_ag (g := e1.2.2) _ _ _ (fun j h1 h2 => if_neg (by omega)), (c st).2]
      show (zrs w (if e.2.1 + (e1.2.1 - e.2.1) = e1.2.1 then y else _) (vs ++ st)).bind _ = _
      rw [if_pos (by omega), (c' st).2]
      rfl
  · dsimp only at h2 ⊢
    by_cases c : j = e1.1.1
    · rw [if_pos c]
      exact hx
    · rw [if_neg c]
      exact h.s.2.1 j h1 (by omega)
  · dsimp only at h2 ⊢
    by_cases c : j = e1.2.1
    · rw [if_pos c]
      exact hy
    · rw [if_neg c]
      exact h.s.2.2 j h1 (by omega)
  · dsimp only
    rw [show e1.1.1 + 1 - e.1.1 = (e1.1.1 - e.1.1) + 1 from by omega, zpc_add, zpc_ag (g := e1.1.2) _ _ (fun j h1 h2 => if_neg (by omega))]
    show _ + ((if zpu (if e.1.1 + (e1.1.1 - e.1.1) = e1.1.1 then x else _) then 1 else 0) + 0) ≤ _
    rw [if_pos (show e.1.1 + (e1.1.1 - e.1.1) = e1.1.1 from by omega)]
    have := h.c
    omega
def z1v (vs : List Int64) : Prop := ∃ v, vs = [v]
def z1b (vs : List Int64) : Prop := ∃ v, (v = 0 ∨ v = 1) ∧ vs = [v]
def z2v (vs : List Int64) : Prop := ∃ a b, vs = [b, a]
def z2b (vs : List Int64) : Prop := ∃ a b, (a = 0 ∨ a = 1) ∧ (b = 0 ∨ b = 1) ∧ vs = [b, a]
/-- signs that join two values -/
theorem zop {x y : Int32} (h : (x = Int32.ofInt 10 ∧ y = Int32.ofInt 2) ∨ (x = Int32.ofInt 11 ∧ y = Int32.ofInt 3) ∨ (x = Int32.ofInt 12 ∧ y = Int32.ofInt 4) ∨ (x = Int32.ofInt 13 ∧ y = Int32.ofInt 5) ∨ (x = Int32.ofInt 14 ∧ y = Int32.ofInt 6) ∨ (x = Int32.ofInt 15 ∧ y = Int32.ofInt 7) ∨ (x = Int32.ofInt 16 ∧ y = Int32.ofInt 8) ∨ (x = Int32.ofInt 17 ∧ y = Int32.ofInt 9) ∨ (x = Int32.ofInt 18 ∧ y = Int32.ofInt 10) ∨ (x = Int32.ofInt 19 ∧ y = Int32.ofInt 12) ∨ (x = Int32.ofInt 20 ∧ y = Int32.ofInt 13)) :
    (x ≠ Int32.ofInt 22 ∧ x ≠ Int32.ofInt 23) ∧ zwk y ∧ ¬ zpu x ∧ ∀ w (a b : Int64) st, zcs w x (b :: a :: st) = some (x44 x a b :: st) ∧ zrs w y (b :: a :: st) = some (x44 x a b :: st) := by
  rcases h with ⟨rfl, rfl⟩ | ⟨rfl, rfl⟩ | ⟨rfl, rfl⟩ | ⟨rfl, rfl⟩ | ⟨rfl, rfl⟩ | ⟨rfl, rfl⟩ | ⟨rfl, rfl⟩ | ⟨rfl, rfl⟩ | ⟨rfl, rfl⟩ | ⟨rfl, rfl⟩ | ⟨rfl, rfl⟩ <;>
    exact ⟨by decide, (fun c => absurd c (by decide)), by decide, fun w a b st => ⟨rfl, rfl⟩⟩
theorem zbool {x : Int32} {a b : Int64} (h : x = Int32.ofInt 14 ∨ x = Int32.ofInt 15 ∨ x = Int32.ofInt 16 ∨ x = Int32.ofInt 17 ∨ x = Int32.ofInt 18) : x44 x a b = 0 ∨ x44 x a b = 1 := by
  rcases h with rfl | rfl | rfl | rfl | rfl
  · show (if 0 ≤ lg_cmp a b then (0 : Int64) else 1) = 0 ∨ (if 0 ≤ lg_cmp a b then (0 : Int64) else 1) = 1
    split
    · exact Or.inl rfl
    · exact Or.inr rfl
  · show (if 0 < lg_cmp a b then (0 : Int64) else 1) = 0 ∨ (if 0 < lg_cmp a b then (0 : Int64) else 1) = 1
    split
    · exact Or.inl rfl
    · exact Or.inr rfl
  · show (if lg_cmp a b = 0 then (1 : Int64) else 0) = 0 ∨ (if lg_cmp a b = 0 then (1 : Int64) else 0) = 1
    split
    · exact Or.inr rfl
    · exact Or.inl rfl
  · show (if lg_cmp a b < 0 then (0 : Int64) else 1) = 0 ∨ (if lg_cmp a b < 0 then (0 : Int64) else 1) = 1
    split
    · exact Or.inl rfl
    · exact Or.inr rfl
  · show (if lg_cmp a b ≤ 0 then (0 : Int64) else 1) = 0 ∨ (if lg_cmp a b ≤ 0 then (0 : Int64) else 1) = 1
    split
    · exact Or.inl rfl
    · exact Or.inr rfl
theorem zbool2 {x : Int32} {a b : Int64} (h : x = Int32.ofInt 19 ∨ x = Int32.ofInt 20) (ha : a = 0 ∨ a = 1) (hb : b = 0 ∨ b = 1) : x44 x a b = 0 ∨ x44 x a b = 1 := by
  rcases h with rfl | rfl <;> rcases ha with rfl | rfl <;> rcases hb with rfl | rfl <;> decide
/-- a value -/
theorem zJ_val {f : Nat → Int32} {t : Nat} {z z1 : lb_Z} (h : lb_val f t z (.inr z1)) (h4 : z.2.2.1.1 < 400) : zJ z.2.2 z1.2.2 1 z1v ∧ z1.2.1 = z.2.1 + 1 ∧ z1.2.2.1.1 = z.2.2.1.1 + 1 ∧ z1.2.1 ≤ 60 := by
  rcases h with ⟨_, h⟩ | ⟨_, _, _, h⟩ | ⟨_, d5, m, h⟩ | ⟨_, _, h⟩ | ⟨_, w, hw, _, _, h⟩
  · cases h
  · cases h
  · cases h
    refine ⟨?_, rfl, by rw [zem h4], by dsimp only; omega⟩
    have b := lb_v_in (f := f) (t := t) (p := z.1) d5
    generalize lb_v f z.1 (lb_d f t z.1) = v at *
    rw [show (Int32.ofInt 0).toInt = 0 from by decide, show (Int32.ofInt 99999).toInt = 99999 from by decide] at b
    have tv := z_tn b.1
    have ev : v = Int32.ofNat v.toNatClampNeg := by
      apply Int32.toInt_inj.mp
      have q : (Int32.ofNat v.toNatClampNeg).toInt = v.toNatClampNeg := nI_toInt (by omega)
      omega
    have e1 : (Int32.ofInt 100 + v).toInt = 100 + v.toInt := by
      rw [Int32.toInt_add, show (Int32.ofInt 100).toInt = 100 from by decide, Int.bmod_eq_of_le (by omega) (by omega)]
    have n1 : ¬ Int32.ofInt 100 + v < Int32.ofInt 100 := fun c => by
      have c := Int32.lt_iff_toInt_lt.mp c
      rw [e1, show (Int32.ofInt 100).toInt = 100 from by decide] at c
      omega
    have e16 : Int32.ofInt 0 + Int32.ofInt 16 * v = Int32.ofNat (16 * v.toNatClampNeg) := by
      apply Int32.toInt_inj.mp
      have q : (Int32.ofNat (16 * v.toNatClampNeg)).toInt = (16 * v.toNatClampNeg : Nat) := nI_toInt (by omega)
      rw [q, show Int32.ofInt 0 + Int32.ofInt 16 * v = Int32.ofInt 16 * v from Int32.zero_add _, Int32.toInt_mul, show (Int32.ofInt 16).toInt = 16 from by decide, Int.bmod_eq_of_le (by omega) (by omega)]
      omega
    have em : (16 * v.toNatClampNeg) % 16 = 0 := by omega
    have ed : (16 * v.toNatClampNeg) / 16 = v.toNatClampNeg := by omega
    have z := zJ_1 (x := Int32.ofInt 100 + v) (y := Int32.ofInt 0 + Int32.ofInt 16 * v) (B' := z1v) (zJ_r (e := z.2.2)) h4 ⟨fun c => by
        have c := congrArg Int32.toInt c
        rw [e1, show (Int32.ofInt 22).toInt = 22 from by decide] at c
        omega, fun c => by
        have c := congrArg Int32.toInt c
        rw [e1, show (Int32.ofInt 23).toInt = 23 from by decide] at c
        omega⟩ (fun c => by
        rw [e16, zb_15 (by omega), em] at c
        exact absurd c (by decide)) (fun w vs hv => ⟨[v.toInt64], ⟨_, rfl⟩, fun st => by
        subst hv
        refine ⟨?_, ?_⟩
        · unfold zcs
          rw [if_neg n1, show Int32.ofInt 100 + v - Int32.ofInt 100 = v from by grind]
          rfl
        · unfold zrs
          rw [e16, zb_15 (by omega), zb_4 (by omega), em, ed, if_pos (show Int32.ofNat 0 = 0 from rfl), ← ev]
          rfl⟩)
    refine zJ_w z ?_ (fun _ h => h)
    split <;> omega
  · cases h
  · rcases h with ⟨_, h⟩ | ⟨m, h⟩
    · cases h
    · have e := Sum.inr.inj h
      subst e
      refine ⟨?_, rfl, by rw [zem h4], by dsimp only; omega⟩
      have key : ∀ w, w < 10 → (nI w ≠ Int32.ofInt 22 ∧ nI w ≠ Int32.ofInt 23) ∧ nI w < Int32.ofInt 100 ∧ ¬ nI w < 0 ∧ ¬ Int32.ofInt 10 ≤ nI w ∧ (nI w).toNatClampNeg = w ∧ ((Int32.ofInt 1 + Int32.ofInt 16 * nI w) &&& Int32.ofInt 15) = Int32.ofInt 1 ∧ ((Int32.ofInt 1 + Int32.ofInt 16 * nI w) >>> (Int32.ofInt 4 &&& 31)).toNatClampNeg = w := by decide
      obtain ⟨k1, k2, k3, k4, k5, k6, k7⟩ := key w hw
      have z := zJ_1 (x := nI w) (y := Int32.ofInt 1 + Int32.ofInt 16 * nI w) (B' := z1v) (zJ_r (e := z.2.2)) h4 k1 (fun _ => by rw [k7]; exact hw) (fun u vs hv => ⟨[u w], ⟨_, rfl⟩, fun st => by
        subst hv
        refine ⟨?_, ?_⟩
        · unfold zcs
          rw [if_pos k2, if_neg k3, if_neg k4, k5]
          rfl
        · unfold zrs
          rw [k6, k7, if_neg (by decide), if_pos rfl]
          rfl⟩)
      refine zJ_w z ?_ (fun _ h => h)
      split <;> omega
