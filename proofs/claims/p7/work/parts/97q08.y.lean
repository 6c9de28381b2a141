/-! a yard that was read begins: the other side's row -/
theorem yf_ix {a m s k : Nat} (h : a + m * s + k < 100000) : (nI a + nI m * nI s + nI k).toNatClampNeg = a + m * s + k := by
  have e : nI a + nI m * nI s + nI k = nI (a + m * s + k) := by
    rw [← me_addn, ← me_addn, show nI (m * s) = nI m * nI s from Int32.ofNat_mul m s]
  rw [e, nI_clamp (by omega)]
theorem yf_jx {m s k : Nat} (h : m * s + k < 100000) : (nI m * nI s + nI k).toNatClampNeg = m * s + k := by
  have e : nI m * nI s + nI k = nI (m * s + k) := by
    rw [← me_addn, show nI (m * s) = nI m * nI s from Int32.ofNat_mul m s]
  rw [e, nI_clamp (by omega)]
theorem yf_56 {p : Nat → Nat} {v : Int32} : ∀ (c n : Nat) (J : Nat → Nat → Int32) (j : Nat), n ≤ 212 → 212 ≤ n + c → x166F_56 p v c (nI n) J (p 4) j = if n ≤ j ∧ j < 212 then 0 else J (p 4) j := by
  intro c
  induction c with
  | zero =>
    intro n J j h1 h2
    rw [if_neg (by omega)]
    rfl
  | succ c ih =>
    intro n J j h1 h2
    rw [x166F_56]
    by_cases e : n = 212
    · subst e
      rw [if_pos (show Int32.ofInt 212 ≤ nI 212 from nI_le (Nat.le_refl 212) (by decide)), if_neg (by omega)]
    · rw [if_neg (show ¬ Int32.ofInt 212 ≤ nI n from nI_ge (b := 212) (by omega) (by decide)), show nI n + Int32.ofInt 1 = nI (n + 1) from me_addn (a := n) (b := 1), ih (n + 1) _ j (by omega) (by omega), nI_clamp (by omega)]
      by_cases g : j = n
      · subst g
        rw [if_neg (by omega), if_pos (by omega), me_us]
        rfl
      · rw [me_uk g]
        by_cases g2 : n + 1 ≤ j ∧ j < 212
        · rw [if_pos g2, if_pos (by omega)]
        · rw [if_neg g2, if_neg (by omega)]
theorem yf_158 {p : Nat → Nat} {s K : Nat} (n04 : p 0 ≠ p 4) (nr4 : p 11 ≠ p 4) (hs : s ≤ 6) (hK : K ≤ 4) : ∀ (c n : Nat) (J : Nat → Nat → Int32) (j : Nat), J (p 0) 7 = nI K → n ≤ K → K ≤ n + c → x166F_158 p (nI s) c (nI n) J (p 4) j = if 10 + 7 * s + n ≤ j ∧ j < 10 + 7 * s + K then J (p 11) (4 * s + (j - (10 + 7 * s))) else J (p 4) j := by
  intro c
  induction c with
  | zero =>
    intro n J j h7 h1 h2
    rw [if_neg (by omega)]
    rfl
  | succ c ih =>
    intro n J j h7 h1 h2
    rw [x166F_158]
    by_cases e : n = K
    · rw [h7, if_pos (show nI K ≤ nI n from nI_le (a := K) (by omega) (by omega)), if_neg (by omega)]
    · rw [h7, if_neg (show ¬ nI K ≤ nI n from nI_ge (b := K) (by omega) (by omega)), show nI n + Int32.ofInt 1 = nI (n + 1) from me_addn (a := n) (b := 1), show (Int32.ofInt 10 + Int32.ofInt 7 * nI s + nI n).toNatClampNeg = 10 + 7 * s + n from yf_ix (a := 10) (m := 7) (by omega), show (Int32.ofInt 4 * nI s + nI n).toNatClampNeg = 4 * s + n from yf_jx (m := 4) (by omega), ih (n + 1) _ j ((me_uj n04).trans h7) (by omega) (by omega), me_uo nr4]
      by_cases g : j = 10 + 7 * s + n
      · subst g
        rw [if_neg (by omega), if_pos (by omega), me_us, show 10 + 7 * s + n - (10 + 7 * s) = n from by omega]
      · rw [me_uk g]
        by_cases g2 : 10 + 7 * s + (n + 1) ≤ j ∧ j < 10 + 7 * s + K
        · rw [if_pos g2, if_pos (by omega)]
        · rw [if_neg g2, if_neg (by omega)]
theorem yf_229 {p : Nat → Nat} {s : Nat} (n04 : p 0 ≠ p 4) (nr4 : p 12 ≠ p 4) (hs : s ≤ 24) : ∀ (c n : Nat) (J : Nat → Nat → Int32) (j : Nat), n ≤ 3 → 3 ≤ n + c → x166F_229 p (nI s) c (nI n) J (p 4) j = if 52 + 5 * s + n ≤ j ∧ j < 52 + 5 * s + 3 then J (p 12) (3 * s + (j - (52 + 5 * s))) else J (p 4) j := by
  intro c
  induction c with
  | zero =>
    intro n J j h1 h2
    rw [if_neg (by omega)]
    rfl
  | succ c ih =>
    intro n J j h1 h2
    rw [x166F_229]
    by_cases e : n = 3
    · rw [if_pos (show Int32.ofInt 3 ≤ nI n from nI_le (a := 3) (by omega) (by omega)), if_neg (by omega)]
    · rw [if_neg (show ¬ Int32.ofInt 3 ≤ nI n from nI_ge (b := 3) (by omega) (by omega)), show nI n + Int32.ofInt 1 = nI (n + 1) from me_addn (a := n) (b := 1), show (Int32.ofInt 52 + Int32.ofInt 5 * nI s + nI n).toNatClampNeg = 52 + 5 * s + n from yf_ix (a := 52) (m := 5) (by omega), show (Int32.ofInt 3 * nI s + nI n).toNatClampNeg = 3 * s + n from yf_jx (m := 3) (by omega), ih (n + 1) _ j (by omega) (by omega), me_uo nr4]
      by_cases g : j = 52 + 5 * s + n
      · subst g
        rw [if_neg (by omega), if_pos (by omega), me_us, show 52 + 5 * s + n - (52 + 5 * s) = n from by omega]
      · rw [me_uk g]
        by_cases g2 : 52 + 5 * s + (n + 1) ≤ j ∧ j < 52 + 5 * s + 3
        · rw [if_pos g2, if_pos (by omega)]
        · rw [if_neg g2, if_neg (by omega)]
theorem yf_295 {p : Nat → Nat} {s : Nat} (n04 : p 0 ≠ p 4) (nr4 : p 13 ≠ p 4) (hs : s ≤ 8) : ∀ (c n : Nat) (J : Nat → Nat → Int32) (j : Nat), n ≤ 4 → 4 ≤ n + c → x166F_295 p (nI s) c (nI n) J (p 4) j = if 172 + 5 * s + n ≤ j ∧ j < 172 + 5 * s + 4 then J (p 13) (4 * s + (j - (172 + 5 * s))) else J (p 4) j := by
  intro c
  induction c with
  | zero =>
    intro n J j h1 h2
    rw [if_neg (by omega)]
    rfl
  | succ c ih =>
    intro n J j h1 h2
    rw [x166F_295]
    by_cases e : n = 4
    · rw [if_pos (show Int32.ofInt 4 ≤ nI n from nI_le (a := 4) (by omega) (by omega)), if_neg (by omega)]
    · rw [if_neg (show ¬ Int32.ofInt 4 ≤ nI n from nI_ge (b := 4) (by omega) (by omega)), show nI n + Int32.ofInt 1 = nI (n + 1) from me_addn (a := n) (b := 1), show (Int32.ofInt 172 + Int32.ofInt 5 * nI s + nI n).toNatClampNeg = 172 + 5 * s + n from yf_ix (a := 172) (m := 5) (by omega), show (Int32.ofInt 4 * nI s + nI n).toNatClampNeg = 4 * s + n from yf_jx (m := 4) (by omega), ih (n + 1) _ j (by omega) (by omega), me_uo nr4]
      by_cases g : j = 172 + 5 * s + n
      · subst g
        rw [if_neg (by omega), if_pos (by omega), me_us, show 172 + 5 * s + n - (172 + 5 * s) = n from by omega]
      · rw [me_uk g]
        by_cases g2 : 172 + 5 * s + (n + 1) ≤ j ∧ j < 172 + 5 * s + 4
        · rw [if_pos g2, if_pos (by omega)]
        · rw [if_neg g2, if_neg (by omega)]
theorem yf_148 {p : Nat → Nat} {S K : Nat} (n04 : p 0 ≠ p 4) (nr4 : p 11 ≠ p 4) (hN : S ≤ 6) (hK : K ≤ 4) : ∀ (c n : Nat) (J : Nat → Nat → Int32) (j : Nat), J (p 0) 8 = nI S → J (p 0) 7 = nI K → n ≤ S → S ≤ n + c → x166F_148 p c (nI n) J (p 4) j = if 10 ≤ j ∧ n ≤ (j - 10) / 7 ∧ (j - 10) / 7 < S ∧ ((j - 10) % 7 < K ∨ (j - 10) % 7 = 5) then (if (j - 10) % 7 = 5 then Int32.ofInt (-1) else J (p 11) (4 * ((j - 10) / 7) + (j - 10) % 7)) else J (p 4) j := by
  intro c
  induction c with
  | zero =>
    intro n J j hc h7 h1 h2
    rw [if_neg (by omega)]
    rfl
  | succ c ih =>
    intro n J j hc h7 h1 h2
    rw [x166F_148]
    by_cases e : n = S
    · rw [hc, if_pos (nI_le (a := S) (by omega) (by omega)), if_neg (by omega)]
    · rw [hc, if_neg (nI_ge (b := S) (by omega) (by omega)), show nI n + Int32.ofInt 1 = nI (n + 1) from me_addn (a := n) (b := 1), show (Int32.ofInt 10 + Int32.ofInt 7 * nI n + Int32.ofInt 5).toNatClampNeg = 10 + 7 * n + 5 from yf_ix (a := 10) (m := 7) (k := 5) (by omega)]
      have fr : ∀ b, b ≠ p 4 → (nt_u (x166F_158 p (nI n) ((J (p 0) 7).toNatClampNeg) (Int32.ofInt 0) J) (p 4) (10 + 7 * n + 5) (Int32.ofInt (-1))) b = J b := fun b hb => (me_uo hb).trans (x166F_158_frJ _ _ _ hb)
      have i0 := yf_158 n04 nr4 (s := n) (show n ≤ 6 by omega) hK ((J (p 0) 7).toNatClampNeg) 0 J j h7 (by omega) (by rw [h7, nI_clamp (by omega)]; omega)
      have i0 : x166F_158 p (nI n) ((J (p 0) 7).toNatClampNeg) (Int32.ofInt 0) J (p 4) j = _ := i0
      obtain ⟨J', hJ⟩ : ∃ J', J' = nt_u (x166F_158 p (nI n) ((J (p 0) 7).toNatClampNeg) (Int32.ofInt 0) J) (p 4) (10 + 7 * n + 5) (Int32.ofInt (-1)) := ⟨_, rfl⟩
      rw [← hJ] at fr ⊢
      rw [ih (n + 1) J' j ((congrFun (fr _ n04) _).trans hc) ((congrFun (fr _ n04) _).trans h7) (by omega) (by omega), fr _ nr4]
      by_cases A : 10 ≤ j ∧ (j - 10) / 7 = n
      · rw [if_neg (by omega), hJ]
        by_cases g5 : (j - 10) % 7 = 5
        · rw [show j = 10 + 7 * n + 5 from by omega, me_us, if_pos (by omega), if_pos (by omega)]
        · rw [me_uk (by omega), i0]
          by_cases gk : 10 + 7 * n + 0 ≤ j ∧ j < 10 + 7 * n + K
          · rw [if_pos gk, if_pos (by omega), if_neg g5]
            exact congrArg (J (p 11)) (by omega)
          · rw [if_neg gk, if_neg (by omega)]
      · have ej : J' (p 4) j = J (p 4) j := by rw [hJ, me_uk (by omega), i0, if_neg (by omega)]
        rw [ej]
        by_cases g : 10 ≤ j ∧ (n + 1) ≤ (j - 10) / 7 ∧ (j - 10) / 7 < S ∧ ((j - 10) % 7 < K ∨ (j - 10) % 7 = 5)
        · rw [if_pos g, if_pos (show 10 ≤ j ∧ n ≤ (j - 10) / 7 ∧ (j - 10) / 7 < S ∧ ((j - 10) % 7 < K ∨ (j - 10) % 7 = 5) from by omega)]
        · rw [if_neg g, if_neg (show ¬ (10 ≤ j ∧ n ≤ (j - 10) / 7 ∧ (j - 10) / 7 < S ∧ ((j - 10) % 7 < K ∨ (j - 10) % 7 = 5)) from by omega)]
theorem yf_219 {p : Nat → Nat} {P : Nat} (n04 : p 0 ≠ p 4) (nr4 : p 12 ≠ p 4) (hN : P ≤ 24) : ∀ (c n : Nat) (J : Nat → Nat → Int32) (j : Nat), J (p 0) 9 = nI P → n ≤ P → P ≤ n + c → x166F_219 p c (nI n) J (p 4) j = if 52 ≤ j ∧ n ≤ (j - 52) / 5 ∧ (j - 52) / 5 < P ∧ ((j - 52) % 5 < 3 ∨ (j - 52) % 5 = 3) then (if (j - 52) % 5 = 3 then Int32.ofInt (-1) else J (p 12) (3 * ((j - 52) / 5) + (j - 52) % 5)) else J (p 4) j := by
  intro c
  induction c with
  | zero =>
    intro n J j hc h1 h2
    rw [if_neg (by omega)]
    rfl
  | succ c ih =>
    intro n J j hc h1 h2
    rw [x166F_219]
    by_cases e : n = P
    · rw [hc, if_pos (nI_le (a := P) (by omega) (by omega)), if_neg (by omega)]
    · rw [hc, if_neg (nI_ge (b := P) (by omega) (by omega)), show nI n + Int32.ofInt 1 = nI (n + 1) from me_addn (a := n) (b := 1), show (Int32.ofInt 52 + Int32.ofInt 5 * nI n + Int32.ofInt 3).toNatClampNeg = 52 + 5 * n + 3 from yf_ix (a := 52) (m := 5) (k := 3) (by omega)]
      have fr : ∀ b, b ≠ p 4 → (nt_u (x166F_229 p (nI n) ((Int32.ofInt 3).toNatClampNeg) (Int32.ofInt 0) J) (p 4) (52 + 5 * n + 3) (Int32.ofInt (-1))) b = J b := fun b hb => (me_uo hb).trans (x166F_229_frJ _ _ _ hb)
      have i0 := yf_229 n04 nr4 (s := n) (show n ≤ 24 by omega) ((Int32.ofInt 3).toNatClampNeg) 0 J j (by omega) (by decide)
      have i0 : x166F_229 p (nI n) ((Int32.ofInt 3).toNatClampNeg) (Int32.ofInt 0) J (p 4) j = _ := i0
      obtain ⟨J', hJ⟩ : ∃ J', J' = nt_u (x166F_229 p (nI n) ((Int32.ofInt 3).toNatClampNeg) (Int32.ofInt 0) J) (p 4) (52 + 5 * n + 3) (Int32.ofInt (-1)) := ⟨_, rfl⟩
      rw [← hJ] at fr ⊢
      rw [ih (n + 1) J' j ((congrFun (fr _ n04) _).trans hc) (by omega) (by omega), fr _ nr4]
      by_cases A : 52 ≤ j ∧ (j - 52) / 5 = n
      · rw [if_neg (by omega), hJ]
        by_cases g5 : (j - 52) % 5 = 3
        · rw [show j = 52 + 5 * n + 3 from by omega, me_us, if_pos (by omega), if_pos (by omega)]
        · rw [me_uk (by omega), i0]
          by_cases gk : 52 + 5 * n + 0 ≤ j ∧ j < 52 + 5 * n + 3
          · rw [if_pos gk, if_pos (by omega), if_neg g5]
            exact congrArg (J (p 12)) (by omega)
          · rw [if_neg gk, if_neg (by omega)]
      · have ej : J' (p 4) j = J (p 4) j := by rw [hJ, me_uk (by omega), i0, if_neg (by omega)]
        rw [ej]
        by_cases g : 52 ≤ j ∧ (n + 1) ≤ (j - 52) / 5 ∧ (j - 52) / 5 < P ∧ ((j - 52) % 5 < 3 ∨ (j - 52) % 5 = 3)
        · rw [if_pos g, if_pos (show 52 ≤ j ∧ n ≤ (j - 52) / 5 ∧ (j - 52) / 5 < P ∧ ((j - 52) % 5 < 3 ∨ (j - 52) % 5 = 3) from by omega)]
        · rw [if_neg g, if_neg (show ¬ (52 ≤ j ∧ n ≤ (j - 52) / 5 ∧ (j - 52) / 5 < P ∧ ((j - 52) % 5 < 3 ∨ (j - 52) % 5 = 3)) from by omega)]
theorem yf_285 {p : Nat → Nat} {V : Nat} (n04 : p 0 ≠ p 4) (nr4 : p 13 ≠ p 4) (hN : V ≤ 8) : ∀ (c n : Nat) (J : Nat → Nat → Int32) (j : Nat), J (p 0) 10 = nI V → n ≤ V → V ≤ n + c → x166F_285 p c (nI n) J (p 4) j = if 172 ≤ j ∧ n ≤ (j - 172) / 5 ∧ (j - 172) / 5 < V ∧ ((j - 172) % 5 < 4) then J (p 13) (4 * ((j - 172) / 5) + (j - 172) % 5) else J (p 4) j := by
  intro c
  induction c with
  | zero =>
    intro n J j hc h1 h2
    rw [if_neg (by omega)]
    rfl
  | succ c ih =>
    intro n J j hc h1 h2
    rw [x166F_285]
    by_cases e : n = V
    · rw [hc, if_pos (nI_le (a := V) (by omega) (by omega)), if_neg (by omega)]
    · rw [hc, if_neg (nI_ge (b := V) (by omega) (by omega)), show nI n + Int32.ofInt 1 = nI (n + 1) from me_addn (a := n) (b := 1)]
      have fr : ∀ b, b ≠ p 4 → (x166F_295 p (nI n) ((Int32.ofInt 4).toNatClampNeg) (Int32.ofInt 0) J) b = J b := fun b hb => x166F_295_frJ _ _ _ hb
      have i0 := yf_295 n04 nr4 (s := n) (show n ≤ 8 by omega) ((Int32.ofInt 4).toNatClampNeg) 0 J j (by omega) (by decide)
      have i0 : x166F_295 p (nI n) ((Int32.ofInt 4).toNatClampNeg) (Int32.ofInt 0) J (p 4) j = _ := i0
      obtain ⟨J', hJ⟩ : ∃ J', J' = x166F_295 p (nI n) ((Int32.ofInt 4).toNatClampNeg) (Int32.ofInt 0) J := ⟨_, rfl⟩
      rw [← hJ] at fr ⊢
      rw [ih (n + 1) J' j ((congrFun (fr _ n04) _).trans hc) (by omega) (by omega), fr _ nr4]
      by_cases A : 172 ≤ j ∧ (j - 172) / 5 = n
      · rw [if_neg (by omega), hJ]
        rw [i0]
        by_cases gk : 172 + 5 * n + 0 ≤ j ∧ j < 172 + 5 * n + 4
        · rw [if_pos gk, if_pos (by omega)]
          exact congrArg (J (p 13)) (by omega)
        · rw [if_neg gk, if_neg (by omega)]
      · have ej : J' (p 4) j = J (p 4) j := by rw [hJ, i0, if_neg (by omega)]
        rw [ej]
        by_cases g : 172 ≤ j ∧ (n + 1) ≤ (j - 172) / 5 ∧ (j - 172) / 5 < V ∧ ((j - 172) % 5 < 4)
        · rw [if_pos g, if_pos (show 172 ≤ j ∧ n ≤ (j - 172) / 5 ∧ (j - 172) / 5 < V ∧ ((j - 172) % 5 < 4) from by omega)]
        · rw [if_neg g, if_neg (show ¬ (172 ≤ j ∧ n ≤ (j - 172) / 5 ∧ (j - 172) / 5 < V ∧ ((j - 172) % 5 < 4)) from by omega)]
def yfJ (p : Nat → Nat) (J : Nat → Nat → Int32) (h : Int32) : Nat → Nat → Int32 := nt_u (nt_u (nt_u (nt_u (nt_u (nt_u (x166F_56 p (J (p 4) 9) ((Int32.ofInt 212).toNatClampNeg) (Int32.ofInt 0) J) (p 4) 0 (J (p 0) 7)) (p 4) 1 (J (p 0) 8)) (p 4) 2 (J (p 0) 9)) (p 4) 3 (J (p 0) 10)) (p 4) 5 h) (p 4) 9 (J (p 4) 9)
def yfB (p : Nat → Nat) (J : Nat → Nat → Int32) : Nat → Nat → Int32 := x166F_148 p ((J (p 0) 8).toNatClampNeg) (Int32.ofInt 0) J
def yfD (p : Nat → Nat) (J : Nat → Nat → Int32) : Nat → Nat → Int32 := x166F_219 p ((J (p 0) 9).toNatClampNeg) (Int32.ofInt 0) J
def yfE (p : Nat → Nat) (J : Nat → Nat → Int32) : Nat → Nat → Int32 := x166F_285 p ((J (p 0) 10).toNatClampNeg) (Int32.ofInt 0) J
theorem yf_eq {p : Nat → Nat} {J : Nat → Nat → Int32} : x166F p J = (J (p 0) 8, yfE p (yfD p (yfB p (yfJ p J (if 0 ≤ J (p 0) 11 then J (p 0) 11 else Int32.ofInt 30))))) := by
  unfold x166F
  by_cases h : 0 ≤ J (p 0) 11
  · rw [if_pos h, if_pos h]
    rfl
  · rw [if_neg h, if_neg h]
    rfl
/-- the row, as it is then -/
def yf_R (e : Nat → Int32) (u : Nat × Nat × Nat × Nat × Nat) (D : lb_C) (x : Int32) : Prop := (e 0 = nI u.1 ∧ e 1 = nI u.2.1 ∧ e 2 = nI u.2.2.1 ∧ e 3 = nI u.2.2.2.1) ∧ (e 4 = 0 ∧ e 5 = nI (lb_hd u.2.2.2.2) ∧ e 6 = 0 ∧ e 7 = 0 ∧ e 8 = 0 ∧ e 9 = x) ∧ (∀ s, s < u.2.1 → (∀ k, k < u.1 → e (10 + 7 * s + k) = D 5 (4 * s + k)) ∧ e (10 + 7 * s + 4) = 0 ∧ e (10 + 7 * s + 5) = Int32.ofInt (-1) ∧ e (10 + 7 * s + 6) = 0) ∧ (∀ n, n < u.2.2.1 → e (52 + 5 * n + 0) = D 6 n ∧ e (52 + 5 * n + 1) = D 7 n ∧ e (52 + 5 * n + 2) = D 8 n ∧ e (52 + 5 * n + 3) = Int32.ofInt (-1) ∧ e (52 + 5 * n + 4) = 0) ∧ (∀ n, n < u.2.2.2.1 → e (172 + 5 * n + 0) = D 9 n ∧ e (172 + 5 * n + 1) = D 10 n ∧ e (172 + 5 * n + 2) = D 11 n ∧ e (172 + 5 * n + 3) = D 12 n ∧ e (172 + 5 * n + 4) = 0)
theorem yf_hh {h : Nat} (hh : h ≤ 30) : (if 0 ≤ lb_hh h then lb_hh h else Int32.ofInt 30) = nI (lb_hd h) := by
  unfold lb_hh lb_hd
  by_cases e : h = 0
  · rw [if_pos e, if_pos e]
    rfl
  · rw [if_neg e, if_neg e, if_pos (nI_pos' (by omega))]
theorem yf_row {p : Nat → Nat} {J : Nat → Nat → Int32} {u : Nat × Nat × Nat × Nat × Nat} {D : lb_C} {Sg Ln : Nat} (hp : zpd p) (hb : lb_ub u) (hE : yr_E (p 11) (p 12) (p 13) (p 0) Sg Ln u D J) : (x166F p J).1 = nI u.2.1 ∧ yf_R ((x166F p J).2 (p 4)) u D (J (p 4) 9) := by
  obtain ⟨⟨c1, c2, c3, c4, c5⟩, hC⟩ := hE
  obtain ⟨b1, b2, b3, b4, b5⟩ := hb
  have hC := hC.2.2
  obtain ⟨r0, r1, r2⟩ := hC
  have n04 : p 0 ≠ p 4 := hp 0 4 (by omega) (by omega) (by omega)
  have n11 : p 11 ≠ p 4 := hp 11 4 (by omega) (by omega) (by omega)
  have n12 : p 12 ≠ p 4 := hp 12 4 (by omega) (by omega) (by omega)
  have n13 : p 13 ≠ p 4 := hp 13 4 (by omega) (by omega) (by omega)
  rw [yf_eq, c5, yf_hh b5]
  refine ⟨c2, ?_⟩
  obtain ⟨K, S, P, V, h⟩ := u
  dsimp only at c1 c2 c3 c4 c5 b1 b2 b3 b4 b5 ⊢
  obtain ⟨JA, hA⟩ : ∃ JA, JA = yfJ p J (nI (lb_hd h)) := ⟨_, rfl⟩
  have fA : ∀ b, b ≠ p 4 → JA b = J b := fun b hb => by
    rw [hA]
    unfold yfJ
    rw [me_uo hb, me_uo hb, me_uo hb, me_uo hb, me_uo hb, me_uo hb, x166F_56_frJ _ _ _ hb]
  have vA : ∀ j, JA (p 4) j = if j = 0 then nI K else if j = 1 then nI S else if j = 2 then nI P else if j = 3 then nI V else if j = 5 then nI (lb_hd h) else if j = 9 then J (p 4) 9 else if j < 212 then 0 else J (p 4) j := by
    intro j
    have z := yf_56 (p := p) (v := J (p 4) 9) 212 0 J j (by omega) (by omega)
    have z : x166F_56 p (J (p 4) 9) ((Int32.ofInt 212).toNatClampNeg) (Int32.ofInt 0) J (p 4) j = _ := z
    rw [hA]
    unfold yfJ
    rw [me_ur, me_ur, me_ur, me_ur, me_ur, me_ur, z, c1, c2, c3, c4]
    by_cases e0 : j = 0
    · subst e0; rfl
    by_cases e1 : j = 1
    · subst e1; rfl
    by_cases e2 : j = 2
    · subst e2; rfl
    by_cases e3 : j = 3
    · subst e3; rfl
    by_cases e5 : j = 5
    · subst e5; rfl
    by_cases e9 : j = 9
    · subst e9; rfl
    rw [if_neg e0, if_neg e1, if_neg e2, if_neg e3, if_neg e5, if_neg e9, if_neg e0, if_neg e1, if_neg e2, if_neg e3, if_neg e5, if_neg e9]
    by_cases g : j < 212
    · rw [if_pos g, if_pos (by omega)]
    · rw [if_neg g, if_neg (by omega)]
  rw [← hA]
  obtain ⟨JB, hB⟩ : ∃ JB, JB = yfB p JA := ⟨_, rfl⟩
  have fB : ∀ b, b ≠ p 4 → JB b = J b := fun b hb => by
    rw [hB]
    unfold yfB
    rw [x166F_148_frJ _ _ _ hb, fA b hb]
  have vB := fun j => yf_148 (p := p) (S := S) (K := K) n04 n11 b2 b1 ((JA (p 0) 8).toNatClampNeg) 0 JA j ((congrFun (fA _ n04) _).trans c2) ((congrFun (fA _ n04) _).trans c1) (by omega) (by rw [fA _ n04, c2, nI_clamp (by omega)]; omega)
  have vB : ∀ j, JB (p 4) j = _ := fun j => (congrFun (congrFun hB _) _).trans (vB j)
  rw [← hB]
  obtain ⟨JC, hC⟩ : ∃ JC, JC = yfD p JB := ⟨_, rfl⟩
  have fC : ∀ b, b ≠ p 4 → JC b = J b := fun b hb => by
    rw [hC]
    unfold yfD
    rw [x166F_219_frJ _ _ _ hb, fB b hb]
  have vC := fun j => yf_219 (p := p) (P := P) n04 n12 b3 ((JB (p 0) 9).toNatClampNeg) 0 JB j ((congrFun (fB _ n04) _).trans c3) (by omega) (by rw [fB _ n04, c3, nI_clamp (by omega)]; omega)
  have vC : ∀ j, JC (p 4) j = _ := fun j => (congrFun (congrFun hC _) _).trans (vC j)
  rw [← hC]
  have vD := fun j => yf_285 (p := p) (V := V) n04 n13 b4 ((JC (p 0) 10).toNatClampNeg) 0 JC j ((congrFun (fC _ n04) _).trans c4) (by omega) (by rw [fC _ n04, c4, nI_clamp (by omega)]; omega)
  have vD : ∀ j, yfE p JC (p 4) j = _ := vD
  have lo : ∀ j, j < 10 → yfE p JC (p 4) j = JA (p 4) j := fun j hj => by rw [vD j, if_neg (by omega), vC j, if_neg (by omega), vB j, if_neg (by omega)]
  have zz : ∀ j, 10 ≤ j → j < 212 → JA (p 4) j = 0 := fun j h1 h2 => by rw [vA j, if_neg (by omega), if_neg (by omega), if_neg (by omega), if_neg (by omega), if_neg (by omega), if_neg (by omega), if_pos h2]
  refine ⟨⟨?_, ?_, ?_, ?_⟩, ⟨?_, ?_, ?_, ?_, ?_, ?_⟩, fun s hs => ⟨fun k hk => ?_, ?_, ?_, ?_⟩, fun n hn => ⟨?_, ?_, ?_, ?_, ?_⟩, fun n hn => ⟨?_, ?_, ?_, ?_, ?_⟩⟩
  · rw [lo 0 (by omega), vA]; rfl
  · rw [lo 1 (by omega), vA]; rfl
  · rw [lo 2 (by omega), vA]; rfl
  · rw [lo 3 (by omega), vA]; rfl
  · rw [lo 4 (by omega), vA]; rfl
  · rw [lo 5 (by omega), vA]; rfl
  · rw [lo 6 (by omega), vA]; rfl
  · rw [lo 7 (by omega), vA]; rfl
  · rw [lo 8 (by omega), vA]; rfl
  · rw [lo 9 (by omega), vA]; rfl
  · dsimp only at hs hk
    rw [vD, if_neg (by omega), vC, if_neg (by omega), vB, if_pos (by omega), if_neg (by omega), fA _ n11, r0, show (10 + 7 * s + k - 10) / 7 = s from by omega, show (10 + 7 * s + k - 10) % 7 = k from by omega]
  · dsimp only at hs
    rw [vD, if_neg (by omega), vC, if_neg (by omega), vB, if_neg (by omega), zz _ (by omega) (by omega)]
  · dsimp only at hs
    rw [vD, if_neg (by omega), vC, if_neg (by omega), vB, if_pos (by omega), if_pos (by omega)]
  · dsimp only at hs
    rw [vD, if_neg (by omega), vC, if_neg (by omega), vB, if_neg (by omega), zz _ (by omega) (by omega)]
  · dsimp only at hn
    rw [vD, if_neg (by omega), vC, if_pos (by omega), if_neg (by omega), fB _ n12, show (52 + 5 * n + 0 - 52) / 5 = n from by omega, show (52 + 5 * n + 0 - 52) % 5 = 0 from by omega]
    exact (r1 n).1
  · dsimp only at hn
    rw [vD, if_neg (by omega), vC, if_pos (by omega), if_neg (by omega), fB _ n12, show (52 + 5 * n + 1 - 52) / 5 = n from by omega, show (52 + 5 * n + 1 - 52) % 5 = 1 from by omega]
    exact (r1 n).2.1
  · dsimp only at hn
    rw [vD, if_neg (by omega), vC, if_pos (by omega), if_neg (by omega), fB _ n12, show (52 + 5 * n + 2 - 52) / 5 = n from by omega, show (52 + 5 * n + 2 - 52) % 5 = 2 from by omega]
    exact (r1 n).2.2
  · dsimp only at hn
    rw [vD, if_neg (by omega), vC, if_pos (by omega), if_pos (by omega)]
  · dsimp only at hn
    rw [vD, if_neg (by omega), vC, if_neg (by omega), vB, if_neg (by omega), zz _ (by omega) (by omega)]
  · dsimp only at hn
    rw [vD, if_pos (by omega), fC _ n13, show (172 + 5 * n + 0 - 172) / 5 = n from by omega, show (172 + 5 * n + 0 - 172) % 5 = 0 from by omega]
    exact (r2 n).1
  · dsimp only at hn
    rw [vD, if_pos (by omega), fC _ n13, show (172 + 5 * n + 1 - 172) / 5 = n from by omega, show (172 + 5 * n + 1 - 172) % 5 = 1 from by omega]
    exact (r2 n).2.1
  · dsimp only at hn
    rw [vD, if_pos (by omega), fC _ n13, show (172 + 5 * n + 2 - 172) / 5 = n from by omega, show (172 + 5 * n + 2 - 172) % 5 = 2 from by omega]
    exact (r2 n).2.2.1
  · dsimp only at hn
    rw [vD, if_pos (by omega), fC _ n13, show (172 + 5 * n + 3 - 172) / 5 = n from by omega, show (172 + 5 * n + 3 - 172) % 5 = 3 from by omega]
    exact (r2 n).2.2.2
  · dsimp only at hn
    rw [vD, if_neg (by omega), vC, if_neg (by omega), vB, if_neg (by omega), zz _ (by omega) (by omega)]
/-! the class begins -/
theorem yg_32 {q : Nat → Nat} (hq : zq q) : ∀ (c n : Nat) (J : Nat → Nat → Int32), n ≤ 6 → 6 ≤ n + c → (∀ j, x64_32 q c (nI n) J (q 10) j = if n ≤ j ∧ j < 6 then Int32.ofInt 0 else J (q 10) j) ∧ (∀ j, x64_32 q c (nI n) J (q 11) j = if n ≤ j ∧ j < 6 then Int32.ofInt 0 else J (q 11) j) ∧ (∀ j, x64_32 q c (nI n) J (q 12) j = if n ≤ j ∧ j < 6 then Int32.ofInt (-1) else J (q 12) j) := by
  intro c
  induction c with
  | zero =>
    intro n J h1 h2
    refine ⟨fun j => ?_, fun j => ?_, fun j => ?_⟩
    all_goals (rw [if_neg (by omega)]; rfl)
  | succ c ih =>
    intro n J h1 h2
    by_cases e : n = 6
    · subst e
      have ee : x64_32 q (c + 1) (nI 6) J = J := by
        rw [x64_32]
        exact if_pos (show Int32.ofInt 6 ≤ nI 6 from nI_le (Nat.le_refl 6) (by decide))
      rw [ee]
      refine ⟨fun j => ?_, fun j => ?_, fun j => ?_⟩
      all_goals rw [if_neg (by omega)]
    · have ee : x64_32 q (c + 1) (nI n) J = x64_32 q c (nI (n + 1)) (nt_u (nt_u (nt_u J (q 10) n (Int32.ofInt 0)) (q 11) n (Int32.ofInt 0)) (q 12) n (Int32.ofInt (-1))) := by
        rw [x64_32, if_neg (show ¬ Int32.ofInt 6 ≤ nI n from nI_ge (b := 6) (by omega) (by decide)), show nI n + Int32.ofInt 1 = nI (n + 1) from me_addn (a := n) (b := 1), nI_clamp (by omega)]
      rw [ee]
      have z := ih (n + 1) (nt_u (nt_u (nt_u J (q 10) n (Int32.ofInt 0)) (q 11) n (Int32.ofInt 0)) (q 12) n (Int32.ofInt (-1))) (by omega) (by omega)
      obtain ⟨z10, z11, z12⟩ := z
      refine ⟨fun j => ?_, fun j => ?_, fun j => ?_⟩
      · rw [z10]
        by_cases g : j = n
        · subst g
          rw [if_neg (by omega), if_pos (by omega), me_uo (hq 10 12 (by omega) (by omega) (by omega)), me_uo (hq 10 11 (by omega) (by omega) (by omega)), me_us]
        · have ej : (nt_u (nt_u (nt_u J (q 10) n (Int32.ofInt 0)) (q 11) n (Int32.ofInt 0)) (q 12) n (Int32.ofInt (-1))) (q 10) j = J (q 10) j := by rw [me_uo (hq 10 12 (by omega) (by omega) (by omega)), me_uo (hq 10 11 (by omega) (by omega) (by omega)), me_uk g]
          rw [ej]
          by_cases g2 : n + 1 ≤ j ∧ j < 6
          · rw [if_pos g2, if_pos (by omega)]
          · rw [if_neg g2, if_neg (by omega)]
      · rw [z11]
        by_cases g : j = n
        · subst g
          rw [if_neg (by omega), if_pos (by omega), me_uo (hq 11 12 (by omega) (by omega) (by omega)), me_us]
        · have ej : (nt_u (nt_u (nt_u J (q 10) n (Int32.ofInt 0)) (q 11) n (Int32.ofInt 0)) (q 12) n (Int32.ofInt (-1))) (q 11) j = J (q 11) j := by rw [me_uo (hq 11 12 (by omega) (by omega) (by omega)), me_uk g, me_uo (hq 11 10 (by omega) (by omega) (by omega))]
          rw [ej]
          by_cases g2 : n + 1 ≤ j ∧ j < 6
          · rw [if_pos g2, if_pos (by omega)]
          · rw [if_neg g2, if_neg (by omega)]
      · rw [z12]
        by_cases g : j = n
        · subst g
          rw [if_neg (by omega), if_pos (by omega), me_us]
        · have ej : (nt_u (nt_u (nt_u J (q 10) n (Int32.ofInt 0)) (q 11) n (Int32.ofInt 0)) (q 12) n (Int32.ofInt (-1))) (q 12) j = J (q 12) j := by rw [me_uk g, me_uo (hq 12 11 (by omega) (by omega) (by omega)), me_uo (hq 12 10 (by omega) (by omega) (by omega))]
          rw [ej]
          by_cases g2 : n + 1 ≤ j ∧ j < 6
          · rw [if_pos g2, if_pos (by omega)]
          · rw [if_neg g2, if_neg (by omega)]
theorem yg_67 {q : Nat → Nat} (hq : zq q) : ∀ (c n : Nat) (J : Nat → Nat → Int32), n ≤ 24 → 24 ≤ n + c → (∀ j, x64_67 q c (nI n) J (q 13) j = if n ≤ j ∧ j < 24 then J (q 4) j else J (q 13) j) ∧ (∀ j, x64_67 q c (nI n) J (q 14) j = if n ≤ j ∧ j < 24 then Int32.ofInt (-1) else J (q 14) j) ∧ (∀ j, x64_67 q c (nI n) J (q 15) j = if n ≤ j ∧ j < 24 then vp_nar .boolean (Int32.ofInt 0) else J (q 15) j) := by
  intro c
  induction c with
  | zero =>
    intro n J h1 h2
    refine ⟨fun j => ?_, fun j => ?_, fun j => ?_⟩
    all_goals (rw [if_neg (by omega)]; rfl)
  | succ c ih =>
    intro n J h1 h2
    by_cases e : n = 24
    · subst e
      have ee : x64_67 q (c + 1) (nI 24) J = J := by
        rw [x64_67]
        exact if_pos (show Int32.ofInt 24 ≤ nI 24 from nI_le (Nat.le_refl 24) (by decide))
      rw [ee]
      refine ⟨fun j => ?_, fun j => ?_, fun j => ?_⟩
      all_goals rw [if_neg (by omega)]
    · have ee : x64_67 q (c + 1) (nI n) J = x64_67 q c (nI (n + 1)) (nt_u (nt_u (nt_u J (q 13) n (J (q 4) n)) (q 14) n (Int32.ofInt (-1))) (q 15) n (vp_nar .boolean (Int32.ofInt 0))) := by
        rw [x64_67, if_neg (show ¬ Int32.ofInt 24 ≤ nI n from nI_ge (b := 24) (by omega) (by decide)), show nI n + Int32.ofInt 1 = nI (n + 1) from me_addn (a := n) (b := 1), nI_clamp (by omega)]
      rw [ee]
      have z := ih (n + 1) (nt_u (nt_u (nt_u J (q 13) n (J (q 4) n)) (q 14) n (Int32.ofInt (-1))) (q 15) n (vp_nar .boolean (Int32.ofInt 0))) (by omega) (by omega)
      obtain ⟨z13, z14, z15⟩ := z
      refine ⟨fun j => ?_, fun j => ?_, fun j => ?_⟩
      · rw [z13]
        by_cases g : j = n
        · subst g
          rw [if_neg (by omega), if_pos (by omega), me_uo (hq 13 15 (by omega) (by omega) (by omega)), me_uo (hq 13 14 (by omega) (by omega) (by omega)), me_us]
        · have ej : (nt_u (nt_u (nt_u J (q 13) n (J (q 4) n)) (q 14) n (Int32.ofInt (-1))) (q 15) n (vp_nar .boolean (Int32.ofInt 0))) (q 13) j = J (q 13) j := by rw [me_uo (hq 13 15 (by omega) (by omega) (by omega)), me_uo (hq 13 14 (by omega) (by omega) (by omega)), me_uk g]
          rw [ej]
          have e4 : (nt_u (nt_u (nt_u J (q 13) n (J (q 4) n)) (q 14) n (Int32.ofInt (-1))) (q 15) n (vp_nar .boolean (Int32.ofInt 0))) (q 4) = J (q 4) := by rw [me_uo (hq 4 15 (by omega) (by omega) (by omega)), me_uo (hq 4 14 (by omega) (by omega) (by omega)), me_uo (hq 4 13 (by omega) (by omega) (by omega))]
          rw [e4]
          by_cases g2 : n + 1 ≤ j ∧ j < 24
          · rw [if_pos g2, if_pos (by omega)]
          · rw [if_neg g2, if_neg (by omega)]
      · rw [z14]
        by_cases g : j = n
        · subst g
          rw [if_neg (by omega), if_pos (by omega), me_uo (hq 14 15 (by omega) (by omega) (by omega)), me_us]
        · have ej : (nt_u (nt_u (nt_u J (q 13) n (J (q 4) n)) (q 14) n (Int32.ofInt (-1))) (q 15) n (vp_nar .boolean (Int32.ofInt 0))) (q 14) j = J (q 14) j := by rw [me_uo (hq 14 15 (by omega) (by omega) (by omega)), me_uk g, me_uo (hq 14 13 (by omega) (by omega) (by omega))]
          rw [ej]
          by_cases g2 : n + 1 ≤ j ∧ j < 24
          · rw [if_pos g2, if_pos (by omega)]
          · rw [if_neg g2, if_neg (by omega)]
      · rw [z15]
        by_cases g : j = n
        · subst g
          rw [if_neg (by omega), if_pos (by omega), me_us]
        · have ej : (nt_u (nt_u (nt_u J (q 13) n (J (q 4) n)) (q 14) n (Int32.ofInt (-1))) (q 15) n (vp_nar .boolean (Int32.ofInt 0))) (q 15) j = J (q 15) j := by rw [me_uk g, me_uo (hq 15 14 (by omega) (by omega) (by omega)), me_uo (hq 15 13 (by omega) (by omega) (by omega))]
          rw [ej]
          by_cases g2 : n + 1 ≤ j ∧ j < 24
          · rw [if_pos g2, if_pos (by omega)]
          · rw [if_neg g2, if_neg (by omega)]
theorem yg_110 {q : Nat → Nat} (hq : zq q) : ∀ (c n : Nat) (J : Nat → Nat → Int32), n ≤ 8 → 8 ≤ n + c → (∀ j, x64_110 q c (nI n) J (q 16) j = if n ≤ j ∧ j < 8 then Int32.ofInt 0 else J (q 16) j) := by
  intro c
  induction c with
  | zero =>
    intro n J h1 h2
    intro j
    rw [if_neg (by omega)]
    rfl
  | succ c ih =>
    intro n J h1 h2
    by_cases e : n = 8
    · subst e
      have ee : x64_110 q (c + 1) (nI 8) J = J := by
        rw [x64_110]
        exact if_pos (show Int32.ofInt 8 ≤ nI 8 from nI_le (Nat.le_refl 8) (by decide))
      rw [ee]
      intro j
      rw [if_neg (by omega)]
    · have ee : x64_110 q (c + 1) (nI n) J = x64_110 q c (nI (n + 1)) (nt_u J (q 16) n (Int32.ofInt 0)) := by
        rw [x64_110, if_neg (show ¬ Int32.ofInt 8 ≤ nI n from nI_ge (b := 8) (by omega) (by decide)), show nI n + Int32.ofInt 1 = nI (n + 1) from me_addn (a := n) (b := 1), nI_clamp (by omega)]
      rw [ee]
      have z := ih (n + 1) (nt_u J (q 16) n (Int32.ofInt 0)) (by omega) (by omega)
      have z16 := z
      intro j
      rw [z16]
      by_cases g : j = n
      · subst g
        rw [if_neg (by omega), if_pos (by omega), me_us]
      · have ej : (nt_u J (q 16) n (Int32.ofInt 0)) (q 16) j = J (q 16) j := by rw [me_uk g]
        rw [ej]
        by_cases g2 : n + 1 ≤ j ∧ j < 8
        · rw [if_pos g2, if_pos (by omega)]
        · rw [if_neg g2, if_neg (by omega)]
