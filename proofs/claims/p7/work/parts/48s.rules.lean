/-! rules that are read: what ghost 0 says behind a write -/
theorem kt_w {X : nt_X} {E : sx_E} {F : sx_F} {r : Nat → Int} {mi pc d g gx tx : Nat} {q : Nat × Int × Int × Nat} {ls : List (Nat × sx_V)} {N N' : sx_N} {v i L0 : sx_L} {c : nt_C} (hat : nt_at mi pc = some (pc, .iastore, gx, tx)) (hok : sx_ok E F r (pc, ls, [(0, 0, v), (0, 0, i), (2, g, L0)], N) c) (hq : E.2.1[g]? = some q) (hk : q.1 = 13) (hg : g < 100) (hi : sx_inb N g q i = true) (hw : sx_wrc E g i v N = some N') : ∃ x : Int32, x.toInt = sx_e r v ∧ 0 ≤ sx_e r i ∧ (∀ o, nt_rn X d mi (pc + 1, c.2.1, [], nt_sI c.2.2.2 (F.1 g) (sx_e r i).toNat x) o → nt_rn X d mi c o) ∧ sx_ok E F r (pc + 1, ls, [], N') (pc + 1, c.2.1, [], nt_sI c.2.2.2 (F.1 g) (sx_e r i).toNat x) := by
  obtain ⟨cp, cl, cs, M⟩ := c
  obtain ⟨o1, o2, o3, o4⟩ := hok
  have o1 : pc = cp := o1
  obtain ⟨v1, u1, e1, ⟨x, ex, hx⟩, p1⟩ := sx_os_c o3
  obtain ⟨v2, u2, e2, ⟨y, ey, hy⟩, p2⟩ := sx_os_c p1
  obtain ⟨v3, u3, e3, h3, p3⟩ := sx_os_c p2
  have h3 : v3 = .ref (F.1 g) := h3
  cases u3 with
  | cons _ _ => exact p3.elim
  | nil =>
  have e1 : cs = v1 :: u1 := e1
  rw [ex, e2, ey, e3, h3] at e1
  subst e1
  subst o1
  obtain ⟨n1, n2⟩ := sx_inb_ok hi o4 hq hg
  obtain ⟨w1, w2⟩ := sx_wrc_ok (x := x) hw o4 hx
  have hg0 := o4.2.1.2 g q hq
  refine ⟨x, hx, w1, fun o h => ?_, rfl, o2, trivial, w2⟩
  exact nt_rn_s (e := (pc, .iastore, gx, tx)) hat rfl (nt_x_iast (i := (sx_e r i).toNat) hg0.1 (hg0.2.1.trans hk) (sx_ix (n := 0) hy w1) n2 hg0.2.2.2.1) h
theorem kt_rows {E : sx_E} {F : sx_F} {M : nt_M} {g h i j : Nat} {x : Int32} (hij : sx_ij E F.1) (hg : g < E.2.1.length) (hh : h < E.2.1.length) (n : h ≠ g) : nt_I (nt_sI M (F.1 g) i x) (F.1 h) j = nt_I M (F.1 h) j := by
  show (if F.1 h = F.1 g then (if j = i then x else nt_I M (F.1 h) j) else nt_I M (F.1 h) j) = _
  rw [if_neg (fun e => n (hij h g hh hg e))]
theorem kt_row {M : nt_M} {a i j : Nat} {x : Int32} : nt_I (nt_sI M a i x) a j = if j = i then x else nt_I M a j := by
  show (if a = a then (if j = i then x else nt_I M a j) else nt_I M a j) = _
  rw [if_pos rfl]
theorem kt_rk {p p' : Nat → Nat → Int32} {t k : Nat} {l : Int} (k12 : k < 12) (hk : (p 3 t).toInt = (k : Int)) (h1 : ∀ j, p' 1 j = p 1 j) (h3 : ∀ j, p' 3 j = p 3 j) (h2 : ∀ j, ¬ (48 * t + 4 * k ≤ j ∧ j < 48 * t + 4 * k + 4) → p' 2 j = p 2 j) (h : nt_rk p t l) : nt_rk p' t l := by
  intro t' c h6 hc hlt
  rw [h3] at hlt
  have ck := h t' c h6 hc hlt
  have key : ∀ i, i < 4 → p' 2 (48 * t' + 4 * c + i) = p 2 (48 * t' + 4 * c + i) := by
    intro i hi
    refine h2 _ ?_
    rintro ⟨a, b⟩
    by_cases e : t' = t
    · rw [e] at a b hlt
      rw [hk] at hlt
      omega
    · rcases Nat.lt_or_gt_of_ne e with g | g <;> omega
  have e1 : p' 1 = p 1 := funext h1
  have k0 : p' 2 (48 * t' + 4 * c) = p 2 (48 * t' + 4 * c) := key 0 (by omega)
  unfold nt_ck at ck ⊢
  rw [k0, key 1 (by omega), key 2 (by omega), key 3 (by omega), e1]
  exact ck
theorem kt_cl {p p' : Nat → Nat → Int32} {t l z : Int} {k : Int} (t0 : 0 ≤ t) (t6 : t < 6) (l0 : 0 ≤ l) (l4 : l ≤ 400) (z0 : 0 ≤ z) (k0 : 0 ≤ k) (k12 : k < 12) (hk : (p 3 t.toNat).toInt = k) (h1 : ∀ j, p' 1 j = p 1 j) (h3 : ∀ j, p' 3 j = p 3 j) (h2 : ∀ j : Nat, ¬ (48 * t + 4 * k ≤ (j : Int) ∧ (j : Int) < 48 * t + 4 * k + 4) → p' 2 j = p 2 j) (h : nt_ghost 0 p (20000 + 1000 * t + l + 10000 * z) = 1) : nt_ghost 0 p' (20000 + 1000 * t + l + 10000 * z) = 1 := by
  have h := (kp_g0 t0 (by omega) l0 l4 z0).mp h
  refine (kp_g0 t0 (by omega) l0 l4 z0).mpr ⟨kt_rk (k := k.toNat) (by omega) (by omega) h1 h3 (fun j hj => h2 j (by omega)) h.1, ?_⟩
  rcases h.2 with h | h
  · exact Or.inl h
  · refine Or.inr ?_
    unfold nt_pd at h ⊢
    rw [show p' 1 = p 1 from funext h1]
    exact h
theorem kt_one {p : Nat → Nat → Int32} {t l0 l1 : Int} (t0 : 0 ≤ t) (t6 : t < 6) (h0 : 0 ≤ l0) (h04 : l0 ≤ 400) (h1 : 0 ≤ l1) (h14 : l1 ≤ 400) (h : nt_ghost 1 p (10000 * (400 * t + l0) + (400 * t + l1)) = 1) : nt_rp (p 1) (400 * t.toNat + l0.toNat) (l1 - l0).toNat = some 1 := by
  rw [kp_g1 (by omega) (by omega) (by omega), show (400 * t + l0).toNat = 400 * t.toNat + l0.toNat from by omega, show (400 * t + l1 - (400 * t + l0)).toNat = (l1 - l0).toNat from by omega] at h
  cases hq : nt_rp (p 1) (400 * t.toNat + l0.toNat) (l1 - l0).toNat with
  | none =>
    rw [hq] at h
    dsimp only at h
    omega
  | some q =>
    rw [hq] at h
    dsimp only at h
    rw [show q = 1 from by omega]
theorem kt_pend {p : Nat → Nat → Int32} {t l0 l1 : Int} (t0 : 0 ≤ t) (t6 : t < 6) (h0 : 0 ≤ l0) (h04 : l0 ≤ 400) (h1 : 0 ≤ l1) (h14 : l1 ≤ 400) (h : nt_ghost 0 p (20000 + 1000 * t + l1 + 10000 * 0) = 1) (hs : nt_ghost 1 p (10000 * (400 * t + l0) + (400 * t + l1)) = 1) : nt_ghost 0 p (20000 + 1000 * t + l1 + 10000 * (401 * l0 + l1 + 1)) = 1 := by
  have h := (kp_g0 t0 (by omega) h1 h14 (by omega)).mp h
  have hs := kt_one t0 t6 h0 h04 h1 h14 hs
  refine (kp_g0 t0 (by omega) h1 h14 (by omega)).mpr ⟨h.1, Or.inr ?_⟩
  have e1 : (401 * l0 + l1 + 1 - 1).toNat % 401 = l1.toNat := by omega
  have e2 : (401 * l0 + l1 + 1 - 1).toNat / 401 = l0.toNat := by omega
  unfold nt_pd
  rw [e1, e2]
  refine ⟨by omega, ?_⟩
  rw [show l1.toNat - l0.toNat = (l1 - l0).toNat from by omega]
  exact hs
theorem kt_drop {p : Nat → Nat → Int32} {t l z : Int} (t0 : 0 ≤ t) (t6 : t < 6) (l0 : 0 ≤ l) (l4 : l ≤ 400) (z0 : 0 ≤ z) (h : nt_ghost 0 p (20000 + 1000 * t + l + 10000 * z) = 1) : nt_ghost 0 p (20000 + 1000 * t + l + 10000 * 0) = 1 :=
  (kp_g0 t0 (by omega) l0 l4 (by omega)).mpr ⟨((kp_g0 t0 (by omega) l0 l4 z0).mp h).1, Or.inl rfl⟩
theorem kt_ck {p : Nat → Nat → Int32} {t c : Nat} {m m' : Int} (hm : m ≤ m') (h : nt_ck p t c m) : nt_ck p t c m' := by
  unfold nt_ck at h ⊢
  obtain ⟨⟨a1, a2, a3, a4⟩, a5⟩ := h
  refine ⟨⟨a1, a2, by omega, a4⟩, ?_⟩
  rcases a5 with a5 | ⟨b1, b2, b3⟩
  · exact Or.inl a5
  · exact Or.inr ⟨b1, by omega, b3⟩
theorem kt_all {p : Nat → Nat → Int32} {t l : Int} (t0 : 0 ≤ t) (t6 : t < 6) (l0 : 0 ≤ l) (l4 : l ≤ 400) (h : nt_ghost 0 p (20000 + 1000 * t + l + 10000 * 0) = 1) : nt_ghost 0 p 10000 = 1 := by
  have h := ((kp_g0 t0 (by omega) l0 l4 (by omega)).mp h).1
  refine kr_0g fun t' c h6 hc hlt => ?_
  refine kt_ck ?_ (h t' c h6 hc hlt)
  split <;> split <;> omega
theorem kt_new {p p' : Nat → Nat → Int32} {t : Int} (t0 : 0 ≤ t) (t6 : t < 6) (h1 : ∀ j, p' 1 j = p 1 j) (h2 : ∀ j, p' 2 j = p 2 j) (h3 : ∀ j, j ≠ t.toNat → p' 3 j = p 3 j) (h0 : (p' 3 t.toNat).toInt = 0) (h : nt_ghost 0 p 10000 = 1) : nt_ghost 0 p' (20000 + 1000 * t + 0 + 10000 * 0) = 1 := by
  have h := kr_g0 h
  refine (kp_g0 t0 (by omega) (by omega) (by omega) (by omega)).mpr ⟨fun t' c h6 hc hlt => ?_, Or.inl rfl⟩
  by_cases e : t' = t.toNat
  · rw [e, h0] at hlt
    omega
  · rw [h3 t' e] at hlt
    have ck := h t' c h6 hc hlt
    rw [if_neg (by omega)] at ck
    rw [if_neg e]
    unfold nt_ck at ck ⊢
    rw [show p' 1 = p 1 from funext h1, h2, h2, h2, h2]
    exact ck
theorem kt_fin {p p' : Nat → Nat → Int32} {t l z k : Int} (t0 : 0 ≤ t) (t6 : t < 6) (l0 : 0 ≤ l) (l4 : l ≤ 400) (z0 : 0 ≤ z) (k0 : 0 ≤ k) (hk : (p 3 t.toNat).toInt = k) (h1 : ∀ j, p' 1 j = p 1 j) (h2 : ∀ j, p' 2 j = p 2 j) (h3 : ∀ j, j ≠ t.toNat → p' 3 j = p 3 j) (h0 : (p' 3 t.toNat).toInt = k + 1) (hc : nt_ck p t.toNat k.toNat l) (h : nt_ghost 0 p (20000 + 1000 * t + l + 10000 * z) = 1) : nt_ghost 0 p' (20000 + 1000 * t + l + 10000 * 0) = 1 := by
  have h := ((kp_g0 t0 (by omega) l0 l4 z0).mp h).1
  refine (kp_g0 t0 (by omega) l0 l4 (by omega)).mpr ⟨fun t' c h6 hc' hlt => ?_, Or.inl rfl⟩
  have key : nt_ck p t' c (if t' = t.toNat then l else 400) := by
    by_cases e : t' = t.toNat
    · rw [e, h0] at hlt
      by_cases e2 : c = k.toNat
      · rw [e, e2, if_pos rfl]
        exact hc
      · rw [e]
        exact h t.toNat c (by omega) hc' (by rw [hk]; omega)
    · rw [h3 t' e] at hlt
      exact h t' c h6 hc' hlt
  unfold nt_ck at key ⊢
  rw [show p' 1 = p 1 from funext h1, h2, h2, h2, h2]
  exact key
/-- a clause without a test, with one -/
theorem kt_c1 {p : Nat → Nat → Int32} {t k l0 l1 : Int} {a : Nat} (t0 : 0 ≤ t) (k0 : 0 ≤ k) (h0 : 0 ≤ l0) (h1 : 0 ≤ l1) (h01 : l0 ≤ l1) (ha : a = 48 * t.toNat + 4 * k.toNat) (c0 : (p 2 a).toInt = l0) (c1 : (p 2 (a + 1)).toInt = l1) (c2 : (p 2 (a + 2)).toInt = -1) (h : nt_rp (p 1) (400 * t.toNat + l0.toNat) (l1 - l0).toNat = some 1) : nt_ck p t.toNat k.toNat l1 := by
  unfold nt_ck
  rw [← ha, c0, c1, c2]
  exact ⟨⟨h0, h01, Int.le_refl _, h⟩, Or.inl (by omega)⟩
theorem kt_c2 {p : Nat → Nat → Int32} {t k l0 l1 l2 : Int} {a : Nat} (t0 : 0 ≤ t) (k0 : 0 ≤ k) (h0 : 0 ≤ l0) (h1 : 0 ≤ l1) (h01 : l0 ≤ l1) (h12 : l1 ≤ l2) (ha : a = 48 * t.toNat + 4 * k.toNat) (c0 : (p 2 a).toInt = l0) (c1 : (p 2 (a + 1)).toInt = l1) (c2 : (p 2 (a + 2)).toInt = l1) (c3 : (p 2 (a + 3)).toInt = l2) (h : nt_rp (p 1) (400 * t.toNat + l0.toNat) (l1 - l0).toNat = some 1) (h' : nt_rp (p 1) (400 * t.toNat + l1.toNat) (l2 - l1).toNat = some 1) : nt_ck p t.toNat k.toNat l2 := by
  unfold nt_ck
  rw [← ha, c0, c1, c2, c3]
  exact ⟨⟨h0, h01, h12, h⟩, Or.inr ⟨h12, Int.le_refl _, h'⟩⟩
/-- what is pending is so -/
theorem kt_pd {p : Nat → Nat → Int32} {t l l0 l1 : Int} (t0 : 0 ≤ t) (t6 : t < 6) (h0 : 0 ≤ l0) (h04 : l0 ≤ 400) (h1 : 0 ≤ l1) (h14 : l1 ≤ 400) (hl : 0 ≤ l) (hl4 : l ≤ 400) (h : nt_ghost 0 p (20000 + 1000 * t + l + 10000 * (401 * l0 + l1 + 1)) = 1) : nt_rp (p 1) (400 * t.toNat + l0.toNat) (l1 - l0).toNat = some 1 := by
  have h := ((kp_g0 t0 (by omega) hl hl4 (by omega)).mp h).2
  have e1 : (401 * l0 + l1 + 1 - 1).toNat % 401 = l1.toNat := by omega
  have e2 : (401 * l0 + l1 + 1 - 1).toNat / 401 = l0.toNat := by omega
  rcases h with h | h
  · omega
  · unfold nt_pd at h
    rw [e1, e2] at h
    rw [show (l1 - l0).toNat = l1.toNat - l0.toNat from by omega]
    exact h.2
theorem kt_z1 {p : Nat → Nat → Int32} {b : Int} (h : 0 ≤ b) (h2 : b < 10000) : nt_ghost 1 p (10000 * b + b) = 0 := by
  rw [kp_g1 h h h2, show (b - b).toNat = 0 from by omega]
  rfl
