/-! the class's cells beside the said row -/
def zc (j : Nat) : Nat × Nat :=
  if j < 4 then (1, j) else if j = 4 then (0, 2) else if j = 5 then (1, 4) else if j = 6 then (0, 3) else if j = 7 then (0, 5) else if j = 8 then (0, 4) else if j = 9 then (0, 6)
  else if j < 52 then (if (j - 10) % 7 < 4 then (2, 4 * ((j - 10) / 7) + (j - 10) % 7) else if (j - 10) % 7 = 4 then (10, (j - 10) / 7) else if (j - 10) % 7 = 5 then (12, (j - 10) / 7) else (11, (j - 10) / 7))
  else if j < 172 then (if (j - 52) % 5 = 0 then (3, (j - 52) / 5) else if (j - 52) % 5 = 1 then (13, (j - 52) / 5) else if (j - 52) % 5 = 2 then (5, (j - 52) / 5) else if (j - 52) % 5 = 3 then (14, (j - 52) / 5) else (15, (j - 52) / 5))
  else (if (j - 172) % 5 = 0 then (6, (j - 172) / 5) else if (j - 172) % 5 = 1 then (7, (j - 172) / 5) else if (j - 172) % 5 = 2 then (8, (j - 172) / 5) else if (j - 172) % 5 = 3 then (9, (j - 172) / 5) else (16, (j - 172) / 5))
def zi (c : Nat × Nat) : Nat :=
  if c.1 = 0 then (if c.2 = 2 then 4 else if c.2 = 3 then 6 else if c.2 = 4 then 8 else if c.2 = 5 then 7 else 9)
  else if c.1 = 1 then (if c.2 < 4 then c.2 else 5)
  else if c.1 = 2 then 10 + 7 * (c.2 / 4) + c.2 % 4
  else if c.1 = 10 then 10 + 7 * c.2 + 4 else if c.1 = 12 then 10 + 7 * c.2 + 5 else if c.1 = 11 then 10 + 7 * c.2 + 6
  else if c.1 = 3 then 52 + 5 * c.2 else if c.1 = 13 then 52 + 5 * c.2 + 1 else if c.1 = 5 then 52 + 5 * c.2 + 2 else if c.1 = 14 then 52 + 5 * c.2 + 3 else if c.1 = 15 then 52 + 5 * c.2 + 4
  else if c.1 = 6 then 172 + 5 * c.2 else if c.1 = 7 then 172 + 5 * c.2 + 1 else if c.1 = 8 then 172 + 5 * c.2 + 2 else if c.1 = 9 then 172 + 5 * c.2 + 3 else 172 + 5 * c.2 + 4
theorem zi_c : ∀ j, j < 212 → zi (zc j) = j := by decide +kernel
theorem zc_17 : ∀ j, j < 212 → (zc j).1 < 17 := by decide +kernel
theorem zc_m : ∀ s, s < 6 → ∀ k, k < 4 → zc (10 + 7 * s + k) = (2, 4 * s + k) := by decide +kernel
theorem zc_s4 : ∀ s, s < 6 → zc (10 + 7 * s + 4) = (10, s) := by decide +kernel
theorem zc_s5 : ∀ s, s < 6 → zc (10 + 7 * s + 5) = (12, s) := by decide +kernel
theorem zc_s6 : ∀ s, s < 6 → zc (10 + 7 * s + 6) = (11, s) := by decide +kernel
theorem zc_p0 : ∀ p, p < 24 → zc (52 + 5 * p + 0) = (3, p) := by decide +kernel
theorem zc_p1 : ∀ p, p < 24 → zc (52 + 5 * p + 1) = (13, p) := by decide +kernel
theorem zc_p2 : ∀ p, p < 24 → zc (52 + 5 * p + 2) = (5, p) := by decide +kernel
theorem zc_p3 : ∀ p, p < 24 → zc (52 + 5 * p + 3) = (14, p) := by decide +kernel
theorem zc_p4 : ∀ p, p < 24 → zc (52 + 5 * p + 4) = (15, p) := by decide +kernel
theorem zc_v0 : ∀ p, p < 8 → zc (172 + 5 * p + 0) = (6, p) := by decide +kernel
theorem zc_v1 : ∀ p, p < 8 → zc (172 + 5 * p + 1) = (7, p) := by decide +kernel
theorem zc_v2 : ∀ p, p < 8 → zc (172 + 5 * p + 2) = (8, p) := by decide +kernel
theorem zc_v3 : ∀ p, p < 8 → zc (172 + 5 * p + 3) = (9, p) := by decide +kernel
theorem zc_v4 : ∀ p, p < 8 → zc (172 + 5 * p + 4) = (16, p) := by decide +kernel
def zn (e : Nat → Int32) (i : Nat) : Nat := (e i).toNatClampNeg
def zv (e : Nat → Int32) (j : Nat) : Prop := j < 9 ∨ (10 ≤ j ∧ j < 52 ∧ (j - 10) / 7 < zn e 1 ∧ ((j - 10) % 7 < 4 → (j - 10) % 7 < zn e 0)) ∨ (52 ≤ j ∧ j < 172 ∧ (j - 52) / 5 < zn e 2) ∨ (172 ≤ j ∧ j < 212 ∧ (j - 172) / 5 < zn e 3)
def zu (e : Nat → Int32) (j : Nat) (v : Int32) : Nat → Int32 := fun i => if i = j then v else e i
theorem zu_s {e : Nat → Int32} {j : Nat} {v : Int32} : zu e j v j = v := if_pos rfl
theorem zu_k {e : Nat → Int32} {j i : Nat} {v : Int32} (h : i ≠ j) : zu e j v i = e i := if_neg h
theorem zu_r {J : Nat → Nat → Int32} {a j : Nat} {v : Int32} : nt_u J a j v a = zu (J a) j v := by
  funext i
  show (if a = a then (if i = j then v else J a i) else J a i) = _
  rw [if_pos rfl]
  rfl
/-- the class's state at q is what the row says -/
def zR (q : Nat → Nat) (J : Nat → Nat → Int32) (e : Nat → Int32) : Prop := (∀ j, zv e j → J (q (zc j).1) (zc j).2 = e j) ∧ J (q 0) 1 = (if e 0 = 0 then 0 else 1)
def zq (q : Nat → Nat) : Prop := ∀ i j, i < 17 → j < 17 → i ≠ j → q i ≠ q j
theorem zv_lt {e : Nat → Int32} {j : Nat} (h : zv e j) : j < 212 := by
  unfold zv at h
  omega
theorem zR_up {q : Nat → Nat} {J : Nat → Nat → Int32} {e : Nat → Int32} {j r k : Nat} {v : Int32} (hq : zq q) (h : zR q J e) (hj : 4 ≤ j) (h2 : j < 212) (hc : zc j = (r, k)) : zR q (nt_u J (q r) k v) (zu e j v) := by
  have c0 : ∀ i, i < 4 → zu e j v i = e i := fun i hi => zu_k (by omega)
  have r17 : r < 17 := by
    have := zc_17 j h2
    rw [hc] at this
    exact this
  refine ⟨?_, ?_⟩
  · intro i hi
    have hi' : zv e i := by
      unfold zv zn at hi ⊢
      rw [c0 0 (by omega), c0 1 (by omega), c0 2 (by omega), c0 3 (by omega)] at hi
      exact hi
    by_cases ei : i = j
    · subst ei
      rw [hc]
      show nt_u J (q r) k v (q r) k = _
      rw [me_us, zu_s]
    · rw [zu_k ei, ← h.1 i hi']
      by_cases er : (zc i).1 = r
      · rw [er]
        have nk : (zc i).2 ≠ k := by
          intro ek
          apply ei
          rw [← zi_c i (zv_lt hi'), ← zi_c j h2, hc]
          congr 1
          exact Prod.ext er ek
        rw [me_uk nk]
      · rw [me_uo (hq _ _ (zc_17 i (zv_lt hi')) r17 er)]
  · rw [c0 0 (by omega), ← h.2]
    by_cases er : r = 0
    · subst er
      have nk : 1 ≠ k := by
        intro ek
        have a := zi_c j h2
        rw [hc, ← ek] at a
        have a : 9 = j := a
        subst a
        rw [show zc 9 = (0, 6) from rfl] at hc
        have := congrArg Prod.snd hc
        have : 6 = k := this
        omega
      rw [me_uk nk]
    · rw [me_uo (hq 0 r (by omega) r17 (by omega))]
/-- reading -/
theorem zn_t {x : Int32} : x.toNatClampNeg = x.toInt.toNat := rfl
theorem zR_n {q : Nat → Nat} {J : Nat → Nat → Int32} {e : Nat → Int32} (h : zR q J e) {i : Nat} (hi : i < 4) : J (q 1) i = e i := by
  have := h.1 i (Or.inl (by omega))
  rw [show zc i = (1, i) from if_pos hi] at this
  exact this
theorem zR_4 {q : Nat → Nat} {J : Nat → Nat → Int32} {e : Nat → Int32} (h : zR q J e) : J (q 0) 2 = e 4 := h.1 4 (Or.inl (by omega))
theorem zR_5 {q : Nat → Nat} {J : Nat → Nat → Int32} {e : Nat → Int32} (h : zR q J e) : J (q 1) 4 = e 5 := h.1 5 (Or.inl (by omega))
theorem zR_6 {q : Nat → Nat} {J : Nat → Nat → Int32} {e : Nat → Int32} (h : zR q J e) : J (q 0) 3 = e 6 := h.1 6 (Or.inl (by omega))
theorem zR_7 {q : Nat → Nat} {J : Nat → Nat → Int32} {e : Nat → Int32} (h : zR q J e) : J (q 0) 5 = e 7 := h.1 7 (Or.inl (by omega))
theorem zR_8 {q : Nat → Nat} {J : Nat → Nat → Int32} {e : Nat → Int32} (h : zR q J e) : J (q 0) 4 = e 8 := h.1 8 (Or.inl (by omega))
theorem zR_p {q : Nat → Nat} {J : Nat → Nat → Int32} {e : Nat → Int32} {n k r m : Nat} (h : zR q J e) (hn : n < zn e 2) (h24 : n < 24) (hk : k < 5) (hc : zc (52 + 5 * n + k) = (r, m)) : J (q r) m = e (52 + 5 * n + k) := by
  have := h.1 (52 + 5 * n + k) (Or.inr (Or.inr (Or.inl ⟨by omega, by omega, by omega⟩)))
  rw [hc] at this
  exact this
theorem zR_v {q : Nat → Nat} {J : Nat → Nat → Int32} {e : Nat → Int32} {n k r m : Nat} (h : zR q J e) (hn : n < zn e 3) (h8 : n < 8) (hk : k < 5) (hc : zc (172 + 5 * n + k) = (r, m)) : J (q r) m = e (172 + 5 * n + k) := by
  have := h.1 (172 + 5 * n + k) (Or.inr (Or.inr (Or.inr ⟨by omega, by omega, by omega⟩)))
  rw [hc] at this
  exact this
theorem zR_s {q : Nat → Nat} {J : Nat → Nat → Int32} {e : Nat → Int32} {n k r m : Nat} (h : zR q J e) (hn : n < zn e 1) (h6 : n < 6) (hk : k < 7) (hk0 : k < 4 → k < zn e 0) (hc : zc (10 + 7 * n + k) = (r, m)) : J (q r) m = e (10 + 7 * n + k) := by
  have := h.1 (10 + 7 * n + k) (Or.inr (Or.inl ⟨by omega, by omega, by omega, fun a => by
    have : (10 + 7 * n + k - 10) % 7 = k := by omega
    rw [this] at a ⊢
    exact hk0 a⟩))
  rw [hc] at this
  exact this
/-- what holds of the row: what the text told -/
def zA (e : Nat → Int32) : Prop := ((e 5).toInt ≤ 30) ∧ (∀ s, s < zn e 1 → ∀ k, k < zn e 0 → 0 ≤ (e (10 + 7 * s + k)).toInt ∧ (e (10 + 7 * s + k)).toInt ≤ 5) ∧ (∀ p, p < zn e 2 → 0 ≤ (e (52 + 5 * p + 0)).toInt ∧ (e (52 + 5 * p + 0)).toInt < (e 0).toInt) ∧ (∀ p, p < zn e 2 → 0 ≤ (e (52 + 5 * p + 2)).toInt ∧ (e (52 + 5 * p + 2)).toInt < (e 1).toInt) ∧ (∀ v, v < zn e 3 → 0 ≤ (e (172 + 5 * v + 0)).toInt ∧ (e (172 + 5 * v + 0)).toInt < (e 1).toInt ∧ 0 ≤ (e (172 + 5 * v + 1)).toInt ∧ (e (172 + 5 * v + 1)).toInt < (e (172 + 5 * v + 2)).toInt ∧ (e (172 + 5 * v + 2)).toInt ≤ 99)
theorem zA.hd {e : Nat → Int32} (h_ : zA e) : (e 5).toInt ≤ 30 := h_.1
theorem zA.mu {e : Nat → Int32} (h_ : zA e) : ∀ s, s < zn e 1 → ∀ k, k < zn e 0 → 0 ≤ (e (10 + 7 * s + k)).toInt ∧ (e (10 + 7 * s + k)).toInt ≤ 5 := h_.2.1
theorem zA.kn {e : Nat → Int32} (h_ : zA e) : ∀ p, p < zn e 2 → 0 ≤ (e (52 + 5 * p + 0)).toInt ∧ (e (52 + 5 * p + 0)).toInt < (e 0).toInt := h_.2.2.1
theorem zA.ow {e : Nat → Int32} (h_ : zA e) : ∀ p, p < zn e 2 → 0 ≤ (e (52 + 5 * p + 2)).toInt ∧ (e (52 + 5 * p + 2)).toInt < (e 1).toInt := h_.2.2.2.1
theorem zA.vo {e : Nat → Int32} (h_ : zA e) : ∀ v, v < zn e 3 → 0 ≤ (e (172 + 5 * v + 0)).toInt ∧ (e (172 + 5 * v + 0)).toInt < (e 1).toInt ∧ 0 ≤ (e (172 + 5 * v + 1)).toInt ∧ (e (172 + 5 * v + 1)).toInt < (e (172 + 5 * v + 2)).toInt ∧ (e (172 + 5 * v + 2)).toInt ≤ 99 := h_.2.2.2.2
/-- where planks are -/
def zB (e : Nat → Int32) : Prop := (∀ p, p < zn e 2 → -1 ≤ (e (52 + 5 * p + 3)).toInt ∧ (e (52 + 5 * p + 3)).toInt < (e 1).toInt) ∧ (∀ p, p < zn e 2 → e (52 + 5 * p + 4) = if 0 ≤ (e (52 + 5 * p + 3)).toInt ∧ e (10 + 7 * (e (52 + 5 * p + 3)).toNatClampNeg + 4) = 2 then 1 else 0)
theorem zB.inn {e : Nat → Int32} (h_ : zB e) : ∀ p, p < zn e 2 → -1 ≤ (e (52 + 5 * p + 3)).toInt ∧ (e (52 + 5 * p + 3)).toInt < (e 1).toInt := h_.1
theorem zB.lo {e : Nat → Int32} (h_ : zB e) : ∀ p, p < zn e 2 → e (52 + 5 * p + 4) = if 0 ≤ (e (52 + 5 * p + 3)).toInt ∧ e (10 + 7 * (e (52 + 5 * p + 3)).toNatClampNeg + 4) = 2 then 1 else 0 := h_.2
/-- where ships are -/
def zC (e : Nat → Int32) (b : Int) : Prop := (∀ s, s < zn e 1 → e (10 + 7 * s + 4) = 0 ∨ e (10 + 7 * s + 4) = 1 ∨ e (10 + 7 * s + 4) = 2) ∧ (∀ s, s < zn e 1 → e (10 + 7 * s + 4) = 1 → ∃ v, v < zn e 3 ∧ (e (10 + 7 * s + 5)).toInt = (v : Nat) ∧ (e (172 + 5 * v + 0)).toInt = s ∧ e (172 + 5 * v + 4) = 1 ∧ b ≤ (e (172 + 5 * v + 2)).toInt) ∧ (∀ s, s < zn e 1 → e (10 + 7 * s + 4) ≠ 1 → e (10 + 7 * s + 5) = Int32.ofInt (-1)) ∧ (∀ v, v < zn e 3 → e (172 + 5 * v + 4) = 1 → ∃ s, s < zn e 1 ∧ (e (172 + 5 * v + 0)).toInt = (s : Nat) ∧ e (10 + 7 * s + 4) = 1 ∧ (e (10 + 7 * s + 5)).toInt = v)
theorem zC.st {e : Nat → Int32} {b : Int} (h_ : zC e b) : ∀ s, s < zn e 1 → e (10 + 7 * s + 4) = 0 ∨ e (10 + 7 * s + 4) = 1 ∨ e (10 + 7 * s + 4) = 2 := h_.1
theorem zC.on {e : Nat → Int32} {b : Int} (h_ : zC e b) : ∀ s, s < zn e 1 → e (10 + 7 * s + 4) = 1 → ∃ v, v < zn e 3 ∧ (e (10 + 7 * s + 5)).toInt = (v : Nat) ∧ (e (172 + 5 * v + 0)).toInt = s ∧ e (172 + 5 * v + 4) = 1 ∧ b ≤ (e (172 + 5 * v + 2)).toInt := h_.2.1
theorem zC.no {e : Nat → Int32} {b : Int} (h_ : zC e b) : ∀ s, s < zn e 1 → e (10 + 7 * s + 4) ≠ 1 → e (10 + 7 * s + 5) = Int32.ofInt (-1) := h_.2.2.1
theorem zC.vc {e : Nat → Int32} {b : Int} (h_ : zC e b) : ∀ v, v < zn e 3 → e (172 + 5 * v + 4) = 1 → ∃ s, s < zn e 1 ∧ (e (172 + 5 * v + 0)).toInt = (s : Nat) ∧ e (10 + 7 * s + 4) = 1 ∧ (e (10 + 7 * s + 5)).toInt = v := h_.2.2.2
/-- days, hands, rot -/
def zD (e : Nat → Int32) : Prop := (0 ≤ (e 6).toInt ∧ (e 6).toInt ≤ (e 5).toInt) ∧ (0 ≤ (e 4).toInt ∧ (e 4).toInt ≤ 1000) ∧ (∀ p, p < zn e 2 → 0 ≤ (e (52 + 5 * p + 1)).toInt ∧ (e (52 + 5 * p + 1)).toInt ≤ 99)
theorem zD.h6 {e : Nat → Int32} (h_ : zD e) : 0 ≤ (e 6).toInt ∧ (e 6).toInt ≤ (e 5).toInt := h_.1
theorem zD.d4 {e : Nat → Int32} (h_ : zD e) : 0 ≤ (e 4).toInt ∧ (e 4).toInt ≤ 1000 := h_.2.1
theorem zD.ro {e : Nat → Int32} (h_ : zD e) : ∀ p, p < zn e 2 → 0 ≤ (e (52 + 5 * p + 1)).toInt ∧ (e (52 + 5 * p + 1)).toInt ≤ 99 := h_.2.2
def zW (e : Nat → Int32) (g : Int) : Prop := (xr_W e) ∧ (zA e) ∧ (zB e) ∧ (zC e g) ∧ (zD e)
theorem zW.w {e : Nat → Int32} {g : Int} (h_ : zW e g) : xr_W e := h_.1
theorem zW.a {e : Nat → Int32} {g : Int} (h_ : zW e g) : zA e := h_.2.1
theorem zW.b {e : Nat → Int32} {g : Int} (h_ : zW e g) : zB e := h_.2.2.1
theorem zW.c {e : Nat → Int32} {g : Int} (h_ : zW e g) : zC e g := h_.2.2.2.1
theorem zW.d {e : Nat → Int32} {g : Int} (h_ : zW e g) : zD e := h_.2.2.2.2
theorem zn_ag {e f : Nat → Int32} {i : Nat} (h : f i = e i) : zn f i = zn e i := by
  unfold zn
  rw [h]
theorem zA_ag {e f : Nat → Int32} (h : zA e) (w : xr_W e) (h0 : ∀ i, i < 6 → i ≠ 4 → f i = e i) (hs : ∀ s, s < 6 → ∀ k, k < 4 → f (10 + 7 * s + k) = e (10 + 7 * s + k)) (hp : ∀ p, p < 24 → f (52 + 5 * p + 0) = e (52 + 5 * p + 0) ∧ f (52 + 5 * p + 2) = e (52 + 5 * p + 2)) (hv : ∀ v, v < 8 → ∀ k, k < 3 → f (172 + 5 * v + k) = e (172 + 5 * v + k)) : zA f := by
  have l0 := xr_0 w
  have l1 := xr_1 w
  have l2 := xr_2 w
  have l3 := xr_3 w
  have n0 := zn_ag (h0 0 (by omega) (by omega))
  have n1 := zn_ag (h0 1 (by omega) (by omega))
  have n2 := zn_ag (h0 2 (by omega) (by omega))
  have n3 := zn_ag (h0 3 (by omega) (by omega))
  have z : ∀ i, zn e i = (e i).toInt.toNat := fun i => rfl
  have z0 := z 0
  have z1 := z 1
  have z2 := z 2
  have z3 := z 3
  refine ⟨?_, ?_, ?_, ?_, ?_⟩
  · rw [h0 5 (by omega) (by omega)]
    exact h.hd
  · intro s hs1 k hk
    rw [n1] at hs1
    rw [n0] at hk
    rw [hs s (by omega) k (by omega)]
    exact h.mu s hs1 k hk
  · intro p hp1
    rw [n2] at hp1
    rw [(hp p (by omega)).1, h0 0 (by omega) (by omega)]
    exact h.kn p hp1
  · intro p hp1
    rw [n2] at hp1
    rw [(hp p (by omega)).2, h0 1 (by omega) (by omega)]
    exact h.ow p hp1
  · intro v hv1
    rw [n3] at hv1
    rw [hv v (by omega) 0 (by omega), hv v (by omega) 1 (by omega), hv v (by omega) 2 (by omega), h0 1 (by omega) (by omega)]
    exact h.vo v hv1
theorem zB_ag {e f : Nat → Int32} (h : zB e) (w : xr_W e) (h1 : f 1 = e 1) (h2 : f 2 = e 2) (hs : ∀ s, s < 6 → f (10 + 7 * s + 4) = e (10 + 7 * s + 4)) (hp : ∀ p, p < 24 → f (52 + 5 * p + 3) = e (52 + 5 * p + 3) ∧ f (52 + 5 * p + 4) = e (52 + 5 * p + 4)) : zB f := by
  have l1 := xr_1 w
  have l2 := xr_2 w
  have n2 := zn_ag h2
  have z2 : zn e 2 = (e 2).toInt.toNat := rfl
  refine ⟨?_, ?_⟩
  · intro p hp1
    rw [n2] at hp1
    rw [(hp p (by omega)).1, h1]
    exact h.inn p hp1
  · intro p hp1
    rw [n2] at hp1
    rw [(hp p (by omega)).1, (hp p (by omega)).2, h.lo p hp1]
    have i := h.inn p hp1
    have y : (e (52 + 5 * p + 3)).toNatClampNeg = (e (52 + 5 * p + 3)).toInt.toNat := rfl
    rw [hs _ (by omega)]
theorem zC_ag {e f : Nat → Int32} {b : Int} (h : zC e b) (w : xr_W e) (h1 : f 1 = e 1) (h3 : f 3 = e 3) (hs : ∀ s, s < 6 → f (10 + 7 * s + 4) = e (10 + 7 * s + 4) ∧ f (10 + 7 * s + 5) = e (10 + 7 * s + 5)) (hv : ∀ v, v < 8 → f (172 + 5 * v + 0) = e (172 + 5 * v + 0) ∧ f (172 + 5 * v + 2) = e (172 + 5 * v + 2) ∧ f (172 + 5 * v + 4) = e (172 + 5 * v + 4)) : zC f b := by
  have l1 := xr_1 w
  have l3 := xr_3 w
  have n1 := zn_ag h1
  have n3 := zn_ag h3
  have z1 : zn e 1 = (e 1).toInt.toNat := rfl
  have z3 : zn e 3 = (e 3).toInt.toNat := rfl
  refine ⟨?_, ?_, ?_, ?_⟩
  · intro s hs1
    rw [n1] at hs1
    rw [(hs s (by omega)).1]
    exact h.st s hs1
  · intro s hs1
    rw [n1] at hs1
    rw [(hs s (by omega)).1, (hs s (by omega)).2]
    intro e1
    obtain ⟨v, a, b, c, d, g⟩ := h.on s hs1 e1
    have q := hv v (by omega)
    exact ⟨v, by rw [n3]; exact a, b, by rw [q.1]; exact c, by rw [q.2.2]; exact d, by rw [q.2.1]; exact g⟩
  · intro s hs1
    rw [n1] at hs1
    rw [(hs s (by omega)).1, (hs s (by omega)).2]
    exact h.no s hs1
  · intro v hv1
    rw [n3] at hv1
    have q := hv v (by omega)
    rw [q.1, q.2.2]
    intro e1
    obtain ⟨s, a, b, c, d⟩ := h.vc v hv1 e1
    exact ⟨s, by rw [n1]; exact a, b, by rw [(hs s (by omega)).1]; exact c, by rw [(hs s (by omega)).2]; exact d⟩
theorem zD_ag {e f : Nat → Int32} (h : zD e) (w : xr_W e) (h2 : f 2 = e 2) (h4 : f 4 = e 4) (h5 : f 5 = e 5) (h6 : f 6 = e 6) (hp : ∀ p, p < 24 → f (52 + 5 * p + 1) = e (52 + 5 * p + 1)) : zD f := by
  have l2 := xr_2 w
  have n2 := zn_ag h2
  have z2 : zn e 2 = (e 2).toInt.toNat := rfl
  refine ⟨?_, ?_, ?_⟩
  · rw [h5, h6]
    exact h.h6
  · rw [h4]
    exact h.d4
  · intro p hp1
    rw [n2] at hp1
    rw [hp p (by omega)]
    exact h.ro p hp1
theorem zn_b {e : Nat → Int32} (h : xr_W e) : zn e 0 ≤ 4 ∧ zn e 1 ≤ 6 ∧ zn e 2 ≤ 24 ∧ zn e 3 ≤ 8 ∧ ((e 0).toInt = zn e 0) ∧ ((e 1).toInt = zn e 1) ∧ ((e 2).toInt = zn e 2) ∧ ((e 3).toInt = zn e 3) := by
  have a := xr_0 h
  have b := xr_1 h
  have c := xr_2 h
  have d := xr_3 h
  unfold zn
  rw [zn_t, zn_t, zn_t, zn_t]
  omega
/-- an index that the loop's test let through -/
theorem zx {e : Nat → Int32} {k : Nat} {i : Int32} (hn : (e k).toInt = zn e k) (h0 : 0 ≤ i.toInt) (h1 : ¬ e k ≤ i) : i.toNatClampNeg < zn e k ∧ i.toInt = i.toNatClampNeg := by
  have h : ¬ (e k).toInt ≤ i.toInt := fun c => h1 (Int32.le_iff_toInt_le.mpr c)
  rw [zn_t]
  omega
theorem zx_p {p : Nat → Nat} {J : Nat → Nat → Int32} {i : Int32} {k : Nat} (h0 : 0 ≤ i.toInt) (h1 : i.toInt ≤ 1000) (hk : k < 1000) : x173 p i (Int32.ofInt (k : Int)) J = J (p 4) (52 + 5 * i.toNatClampNeg + k) := by
  unfold x173
  rw [show ((Int32.ofInt 52 + Int32.ofInt 5 * i) + Int32.ofInt (k : Int)).toNatClampNeg = 52 + 5 * i.toInt.toNat + k from xi_3 (a := 52) (m := 5) (b := k) (by omega) (by omega) hk h0 h1]
  rfl
theorem zx_v {p : Nat → Nat} {J : Nat → Nat → Int32} {i : Int32} {k : Nat} (h0 : 0 ≤ i.toInt) (h1 : i.toInt ≤ 1000) (hk : k < 1000) : x180 p i (Int32.ofInt (k : Int)) J = J (p 4) (172 + 5 * i.toNatClampNeg + k) := by
  unfold x180
  rw [show ((Int32.ofInt 172 + Int32.ofInt 5 * i) + Int32.ofInt (k : Int)).toNatClampNeg = 172 + 5 * i.toInt.toNat + k from xi_3 (a := 172) (m := 5) (b := k) (by omega) (by omega) hk h0 h1]
  rfl
theorem zx_s {p : Nat → Nat} {J : Nat → Nat → Int32} {i : Int32} {k : Nat} (h0 : 0 ≤ i.toInt) (h1 : i.toInt ≤ 1000) (hk : k < 1000) : x169 p i (Int32.ofInt (k : Int)) J = J (p 4) (10 + 7 * i.toNatClampNeg + k) := by
  unfold x169
  rw [show ((Int32.ofInt 10 + Int32.ofInt 7 * i) + Int32.ofInt (k : Int)).toNatClampNeg = 10 + 7 * i.toInt.toNat + k from xi_3 (a := 10) (m := 7) (b := k) (by omega) (by omega) hk h0 h1]
  rfl
/-- all of a plank -/
theorem zP {q p : Nat → Nat} {Jc Jr : Nat → Nat → Int32} {i : Int32} (hR : zR q Jc (Jr (p 4))) (hW : xr_W (Jr (p 4))) (h0 : 0 ≤ i.toInt) (h1 : ¬ Jr (p 4) 2 ≤ i) :
    i.toNatClampNeg < zn (Jr (p 4)) 2 ∧ i.toInt = i.toNatClampNeg ∧
    Jc (q 3) i.toNatClampNeg = Jr (p 4) (52 + 5 * i.toNatClampNeg + 0) ∧ Jc (q 13) i.toNatClampNeg = Jr (p 4) (52 + 5 * i.toNatClampNeg + 1) ∧ Jc (q 5) i.toNatClampNeg = Jr (p 4) (52 + 5 * i.toNatClampNeg + 2) ∧ Jc (q 14) i.toNatClampNeg = Jr (p 4) (52 + 5 * i.toNatClampNeg + 3) ∧ Jc (q 15) i.toNatClampNeg = Jr (p 4) (52 + 5 * i.toNatClampNeg + 4) ∧
    x173 p i (Int32.ofInt 0) Jr = Jr (p 4) (52 + 5 * i.toNatClampNeg + 0) ∧ x173 p i (Int32.ofInt 1) Jr = Jr (p 4) (52 + 5 * i.toNatClampNeg + 1) ∧ x173 p i (Int32.ofInt 2) Jr = Jr (p 4) (52 + 5 * i.toNatClampNeg + 2) ∧ x173 p i (Int32.ofInt 3) Jr = Jr (p 4) (52 + 5 * i.toNatClampNeg + 3) ∧ x173 p i (Int32.ofInt 4) Jr = Jr (p 4) (52 + 5 * i.toNatClampNeg + 4) := by
  have b := zn_b hW
  have x := zx b.2.2.2.2.2.2.1 h0 h1
  have l : i.toNatClampNeg < 24 := by omega
  have l2 : i.toInt ≤ 1000 := by omega
  exact ⟨x.1, x.2, zR_p hR x.1 l (by omega) (zc_p0 _ l), zR_p hR x.1 l (by omega) (zc_p1 _ l), zR_p hR x.1 l (by omega) (zc_p2 _ l), zR_p hR x.1 l (by omega) (zc_p3 _ l), zR_p hR x.1 l (by omega) (zc_p4 _ l), zx_p (k := 0) h0 l2 (by omega), zx_p (k := 1) h0 l2 (by omega), zx_p (k := 2) h0 l2 (by omega), zx_p (k := 3) h0 l2 (by omega), zx_p (k := 4) h0 l2 (by omega)⟩
/-- all of a voyage -/
theorem zV {q p : Nat → Nat} {Jc Jr : Nat → Nat → Int32} {i : Int32} (hR : zR q Jc (Jr (p 4))) (hW : xr_W (Jr (p 4))) (h0 : 0 ≤ i.toInt) (h1 : ¬ Jr (p 4) 3 ≤ i) :
    i.toNatClampNeg < zn (Jr (p 4)) 3 ∧ i.toInt = i.toNatClampNeg ∧
    Jc (q 6) i.toNatClampNeg = Jr (p 4) (172 + 5 * i.toNatClampNeg + 0) ∧ Jc (q 7) i.toNatClampNeg = Jr (p 4) (172 + 5 * i.toNatClampNeg + 1) ∧ Jc (q 8) i.toNatClampNeg = Jr (p 4) (172 + 5 * i.toNatClampNeg + 2) ∧ Jc (q 9) i.toNatClampNeg = Jr (p 4) (172 + 5 * i.toNatClampNeg + 3) ∧ Jc (q 16) i.toNatClampNeg = Jr (p 4) (172 + 5 * i.toNatClampNeg + 4) ∧
    x180 p i (Int32.ofInt 0) Jr = Jr (p 4) (172 + 5 * i.toNatClampNeg + 0) ∧ x180 p i (Int32.ofInt 1) Jr = Jr (p 4) (172 + 5 * i.toNatClampNeg + 1) ∧ x180 p i (Int32.ofInt 2) Jr = Jr (p 4) (172 + 5 * i.toNatClampNeg + 2) ∧ x180 p i (Int32.ofInt 3) Jr = Jr (p 4) (172 + 5 * i.toNatClampNeg + 3) ∧ x180 p i (Int32.ofInt 4) Jr = Jr (p 4) (172 + 5 * i.toNatClampNeg + 4) := by
  have b := zn_b hW
  have x := zx b.2.2.2.2.2.2.2 h0 h1
  have l : i.toNatClampNeg < 8 := by omega
  have l2 : i.toInt ≤ 1000 := by omega
  exact ⟨x.1, x.2, zR_v hR x.1 l (by omega) (zc_v0 _ l), zR_v hR x.1 l (by omega) (zc_v1 _ l), zR_v hR x.1 l (by omega) (zc_v2 _ l), zR_v hR x.1 l (by omega) (zc_v3 _ l), zR_v hR x.1 l (by omega) (zc_v4 _ l), zx_v (k := 0) h0 l2 (by omega), zx_v (k := 1) h0 l2 (by omega), zx_v (k := 2) h0 l2 (by omega), zx_v (k := 3) h0 l2 (by omega), zx_v (k := 4) h0 l2 (by omega)⟩
/-- all of a ship but what she must have -/
theorem zS {q p : Nat → Nat} {Jc Jr : Nat → Nat → Int32} {i : Int32} (hR : zR q Jc (Jr (p 4))) (hW : xr_W (Jr (p 4))) (h0 : 0 ≤ i.toInt) (h1 : i.toInt < (Jr (p 4) 1).toInt) :
    i.toNatClampNeg < zn (Jr (p 4)) 1 ∧ i.toInt = i.toNatClampNeg ∧
    Jc (q 10) i.toNatClampNeg = Jr (p 4) (10 + 7 * i.toNatClampNeg + 4) ∧ Jc (q 12) i.toNatClampNeg = Jr (p 4) (10 + 7 * i.toNatClampNeg + 5) ∧ Jc (q 11) i.toNatClampNeg = Jr (p 4) (10 + 7 * i.toNatClampNeg + 6) ∧
    x169 p i (Int32.ofInt 4) Jr = Jr (p 4) (10 + 7 * i.toNatClampNeg + 4) ∧ x169 p i (Int32.ofInt 5) Jr = Jr (p 4) (10 + 7 * i.toNatClampNeg + 5) ∧ x169 p i (Int32.ofInt 6) Jr = Jr (p 4) (10 + 7 * i.toNatClampNeg + 6) := by
  have b := zn_b hW
  have x : i.toNatClampNeg < zn (Jr (p 4)) 1 ∧ i.toInt = i.toNatClampNeg := by
    rw [zn_t]
    omega
  have l : i.toNatClampNeg < 6 := by omega
  have l2 : i.toInt ≤ 1000 := by omega
  exact ⟨x.1, x.2, zR_s hR x.1 l (by omega) (by omega) (zc_s4 _ l), zR_s hR x.1 l (by omega) (by omega) (zc_s5 _ l), zR_s hR x.1 l (by omega) (by omega) (zc_s6 _ l), zx_s (k := 4) h0 l2 (by omega), zx_s (k := 5) h0 l2 (by omega), zx_s (k := 6) h0 l2 (by omega)⟩
