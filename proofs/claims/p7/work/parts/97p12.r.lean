/-! a ship fitted out: both sides -/
def zkn (e : Nat → Int32) (s k : Int32) : Nat → Nat
  | 0 => 0
  | n + 1 => zkn e s k n + (if e (52 + 5 * n + 3) = s ∧ ¬ e (52 + 5 * n + 1) ≤ 0 ∧ e (52 + 5 * n + 0) = k then 1 else 0)
theorem zkn_le {e : Nat → Int32} {s k : Int32} : ∀ n, zkn e s k n ≤ n := by
  intro n
  induction n with
  | zero => exact Nat.le_refl _
  | succ n ih =>
    rw [zkn]
    split <;> omega
theorem zkn_mv {e f : Nat → Int32} {s k : Int32} {m : Nat} (h3 : e (52 + 5 * m + 3) ≠ s) (f3 : f (52 + 5 * m + 3) = s) (h1 : ¬ e (52 + 5 * m + 1) ≤ 0) (h0 : e (52 + 5 * m + 0) = k) (fo : ∀ j, 10 ≤ j → j ≠ 52 + 5 * m + 3 → f j = e j) : ∀ n, zkn f s k n = zkn e s k n + (if m < n then 1 else 0) := by
  intro n
  induction n with
  | zero => rw [if_neg (by omega)]; rfl
  | succ n ih =>
    rw [zkn, zkn, ih]
    by_cases c : n = m
    · subst c
      rw [if_neg (show ¬ n < n from by omega), if_pos (show n < n + 1 from by omega), f3, fo (52 + 5 * n + 1) (by omega) (by omega), fo (52 + 5 * n + 0) (by omega) (by omega), if_pos (show s = s ∧ ¬ e (52 + 5 * n + 1) ≤ 0 ∧ e (52 + 5 * n + 0) = k from ⟨rfl, h1, h0⟩), if_neg (fun z => h3 z.1)]
    · rw [fo (52 + 5 * n + 3) (by omega) (by omega), fo (52 + 5 * n + 1) (by omega) (by omega), fo (52 + 5 * n + 0) (by omega) (by omega)]
      by_cases d : m < n
      · rw [if_pos d, if_pos (show m < n + 1 from by omega)]
        omega
      · rw [if_neg d, if_neg (show ¬ m < n + 1 from by omega)]
        omega
theorem z_mi {x : Int32} : (if 0 ≤ x then x else Int32.ofInt 0).toInt = max 0 x.toInt := by
  by_cases h : 0 ≤ x
  · rw [if_pos h]
    have := z_ge.mp h
    rw [show (0 : Int32).toInt = 0 from by decide] at this
    omega
  · rw [if_neg h, show (Int32.ofInt 0).toInt = 0 from by decide]
    have : ¬ (0 : Int32).toInt ≤ x.toInt := fun c => h (z_ge.mpr c)
    rw [show (0 : Int32).toInt = 0 from by decide] at this
    omega
theorem zkn_175l {p : Nat → Nat} {J : Nat → Nat → Int32} {s k : Int32} {m0 : Int} (hW : xr_W (J (p 4))) (hl : zl (J (p 4)) s) (hm : 0 ≤ m0 ∧ m0 ≤ 100) : ∀ (c : Nat) (a i : Int32), 0 ≤ i.toInt → i.toInt ≤ (J (p 4) 2).toInt → (J (p 4) 2).toInt - i.toInt ≤ c → a.toInt = m0 - zkn (J (p 4)) s k i.toNatClampNeg → (x175_10 p s k J c a i).toInt = max 0 (m0 - zkn (J (p 4)) s k (zn (J (p 4)) 2)) := by
  have bb := zn_b hW
  intro c
  induction c with
  | zero =>
    intro a i h h2 hc ha
    rw [x175_10, z_mi, ha, show i.toNatClampNeg = zn (J (p 4)) 2 from by rw [zn_t]; omega]
  | succ c ih =>
    intro a i h h2 hc ha
    rw [x175_10]
    by_cases h1 : J (p 4) 2 ≤ i
    · rw [if_pos h1, z_mi, ha, show i.toNatClampNeg = zn (J (p 4)) 2 from by rw [zn_t]; have := z_ge.mp h1; omega]
    · rw [if_neg h1]
      have x := zx bb.2.2.2.2.2.2.1 h h1
      have le := zkn_le (e := J (p 4)) (s := s) (k := k) i.toNatClampNeg
      have st := fun a => ih a (i + Int32.ofInt 1) (zi_i h1 h) (by rw [lx_inc h1]; have := z_lt h1; omega) (lx_dec h1 hc)
      rw [zx_i h1 h, zkn] at st
      have r0 : x173 p i (Int32.ofInt 0) J = _ := zx_p (k := 0) h (by omega) (by omega)
      have r1 : x173 p i (Int32.ofInt 1) J = _ := zx_p (k := 1) h (by omega) (by omega)
      have r3 : x173 p i (Int32.ofInt 3) J = _ := zx_p (k := 3) h (by omega) (by omega)
      have r4 : x173 p i (Int32.ofInt 4) J = _ := zx_p (k := 4) h (by omega) (by omega)
      rw [z_in r1 r3 r4 (hl _ x.1), r0]
      have s1 : (a - Int32.ofInt 1).toInt = a.toInt - 1 := by
        rw [Int32.toInt_sub, show (Int32.ofInt 1).toInt = 1 from by decide, Int.bmod_eq_of_le (by omega) (by omega)]
      by_cases h3 : J (p 4) (52 + 5 * i.toNatClampNeg + 3) = s
      · rw [if_pos h3]
        by_cases h4 : J (p 4) (52 + 5 * i.toNatClampNeg + 1) ≤ 0
        · rw [if_pos h4, if_pos rfl, z_sub0]
          exact st a (by rw [ha, if_neg (fun z => z.2.1 h4)]; omega)
        · rw [if_neg h4, if_neg (show ¬ (1 : Int32) = 0 from by decide)]
          by_cases h5 : J (p 4) (52 + 5 * i.toNatClampNeg + 0) = k
          · rw [if_pos h5]
            exact st _ (by rw [s1, ha, if_pos ⟨h3, h4, h5⟩]; omega)
          · rw [if_neg h5, z_sub0]
            exact st a (by rw [ha, if_neg (fun z => h5 z.2.2)]; omega)
      · rw [if_neg h3, if_pos rfl, z_sub0]
        exact st a (by rw [ha, if_neg (fun z => h3 z.1)]; omega)
theorem zkn_175 {p : Nat → Nat} {J : Nat → Nat → Int32} {s k : Int32} (hW : xr_W (J (p 4))) (ha : zA (J (p 4))) (hl : zl (J (p 4)) s) (hs : 0 ≤ s.toInt ∧ s.toInt < (J (p 4) 1).toInt) (hk : 0 ≤ k.toInt ∧ k.toInt < (J (p 4) 0).toInt) : (x175 p s k J).toInt = max 0 ((J (p 4) (10 + 7 * s.toNatClampNeg + k.toNatClampNeg)).toInt - zkn (J (p 4)) s k (zn (J (p 4)) 2)) := by
  have bb := zn_b hW
  have ts := z_tn hs.1
  have tk := z_tn hk.1
  have ek : k = Int32.ofInt (k.toNatClampNeg : Int) := (z_oi hk.1 (by omega)).symm
  have em : x169 p s k J = J (p 4) (10 + 7 * s.toNatClampNeg + k.toNatClampNeg) := by
    have t := zx_s (p := p) (J := J) (i := s) (k := k.toNatClampNeg) hs.1 (by omega) (by omega)
    rw [← ek] at t
    exact t
  have mu := ha.mu s.toNatClampNeg (by omega) k.toNatClampNeg (by omega)
  unfold x175
  rw [em]
  exact zkn_175l hW hl ⟨mu.1, by omega⟩ _ _ _ (by decide) (by rw [show (Int32.ofInt 0).toInt = 0 from by decide]; omega) (lx_beg (by decide)) (by rw [show (Int32.ofInt 0).toNatClampNeg = 0 from rfl, zkn]; omega)
/-- a plank that can be taken is sound, not lost, not there yet, of the kind -/
theorem z_194 {p : Nat → Nat} {J : Nat → Nat → Int32} {i s k : Int32} (h0 : 0 ≤ i.toInt) (h1 : i.toInt ≤ 1000) (h : ¬ x194 p i s k J = 0) : J (p 4) (52 + 5 * i.toNatClampNeg + 0) = k ∧ ¬ J (p 4) (52 + 5 * i.toNatClampNeg + 1) ≤ 0 ∧ J (p 4) (52 + 5 * i.toNatClampNeg + 3) ≠ s ∧ J (p 4) (52 + 5 * i.toNatClampNeg + 4) = 0 := by
  have r0 : x173 p i (Int32.ofInt 0) J = _ := zx_p (k := 0) h0 h1 (by omega)
  have r1 : x173 p i (Int32.ofInt 1) J = _ := zx_p (k := 1) h0 h1 (by omega)
  have r3 : x173 p i (Int32.ofInt 3) J = _ := zx_p (k := 3) h0 h1 (by omega)
  have r4 : x173 p i (Int32.ofInt 4) J = _ := zx_p (k := 4) h0 h1 (by omega)
  unfold x194 at h
  by_cases a : x183 p i J = 0
  · rw [if_pos a] at h
    exact absurd rfl h
  · rw [if_neg a, r0] at h
    by_cases c : J (p 4) (52 + 5 * i.toNatClampNeg + 0) = k
    · rw [if_pos c, r3] at h
      by_cases d : J (p 4) (52 + 5 * i.toNatClampNeg + 3) = s
      · rw [if_pos d] at h
        exact absurd rfl h
      · unfold x183 x172 at a
        rw [r1, r4] at a
        by_cases e : J (p 4) (52 + 5 * i.toNatClampNeg + 1) ≤ 0
        · rw [if_pos e, if_pos (show Int32.ofInt 0 = 0 from rfl)] at a
          exact absurd rfl a
        · rw [if_neg e] at a
          by_cases g : J (p 4) (52 + 5 * i.toNatClampNeg + 4) = 0
          · exact ⟨c, e, d, g⟩
          · rw [if_neg g, if_pos (show Int32.ofInt 0 = 0 from rfl)] at a
            exact absurd rfl a
    · rw [if_neg c] at h
      exact absurd rfl h
/-- what a stretch of fitting out keeps on both sides -/
def zKp (p q : Nat → Nat) (sp : Nat) (Jc Jr Jc' Jr' : Nat → Nat → Int32) : Prop := (∀ a, a ≠ p 25 → (∀ i, i < 17 → a ≠ q i) → Jc' a = Jc a) ∧ (∀ a, a ≠ p 0 → a ≠ p 4 → Jr' a = Jr a)
theorem zKp.c {p q : Nat → Nat} {sp : Nat} {Jc Jr Jc' Jr' : Nat → Nat → Int32} (h_ : zKp p q sp Jc Jr Jc' Jr') : ∀ a, a ≠ p 25 → (∀ i, i < 17 → a ≠ q i) → Jc' a = Jc a := h_.1
theorem zKp.r {p q : Nat → Nat} {sp : Nat} {Jc Jr Jc' Jr' : Nat → Nat → Int32} (h_ : zKp p q sp Jc Jr Jc' Jr') : ∀ a, a ≠ p 0 → a ≠ p 4 → Jr' a = Jr a := h_.2
theorem zKp_r {p q : Nat → Nat} {sp : Nat} {Jc Jr : Nat → Nat → Int32} : zKp p q sp Jc Jr Jc Jr := ⟨fun _ _ _ => rfl, fun _ _ _ => rfl⟩
theorem zKp_t {p q : Nat → Nat} {sp : Nat} {Jc Jr Jc' Jr' Jc2 Jr2 : Nat → Nat → Int32} (h : zKp p q sp Jc Jr Jc' Jr') (g : zKp p q sp Jc' Jr' Jc2 Jr2) : zKp p q sp Jc Jr Jc2 Jr2 := ⟨fun a h1 h2 => (g.c a h1 h2).trans (h.c a h1 h2), fun a h1 h2 => (g.r a h1 h2).trans (h.r a h1 h2)⟩
theorem zKp_Q {p q : Nat → Nat} {sp ln T : Nat} {Jc Jr Jc' Jr' : Nat → Nat → Int32} (X : zX p q) (hs : ∀ i, i < 17 → sp ≠ q i) (h : zKp p q sp Jc Jr Jc' Jr') (hQ : zRQ p sp ln T Jc Jr) : zRQ p sp ln T Jc' Jr' :=
  zRQ_ag hQ (h.c sp hQ.sp25 hs) (h.r _ (X.hp 1 0 (by omega) (by omega) (by omega)) (X.hp 1 4 (by omega) (by omega) (by omega))) (h.r _ (X.hp 2 0 (by omega) (by omega) (by omega)) (X.hp 2 4 (by omega) (by omega) (by omega))) (h.r _ (X.hp 3 0 (by omega) (by omega) (by omega)) (X.hp 3 4 (by omega) (by omega) (by omega)))
theorem zfill_l {p q : Nat → Nat} {sp ln T : Nat} {t v s k wn : Int32} {b : Int} (X : zX p q) (hsq : ∀ i, i < 17 → sp ≠ q i) (ht : t.toInt = (T : Nat)) (v0 : 0 ≤ v.toInt) :
    ∀ (c c' : Nat) (i : Int32) (Jc Jr : Nat → Nat → Int32) (Lc Lr : Nat → Nat → Int64), zR q Jc (Jr (p 4)) → zW (Jr (p 4)) b → zRQ p sp ln T Jc Jr → ¬ Jr (p 4) 3 ≤ v → Jr (p 4) (172 + 5 * v.toNatClampNeg + 0) = s → (0 ≤ s.toInt ∧ s.toInt < (Jr (p 4) 1).toInt) → Jr (p 4) (10 + 7 * s.toNatClampNeg + 4) = 0 → (0 ≤ k.toInt ∧ k.toInt < (Jr (p 4) 0).toInt) → wn.toInt - i.toInt = (c : Nat) → 0 ≤ i.toInt → (c : Int) = min (x175 p s k Jr).toInt ((Jr (p 4) 5).toInt - (Jr (p 4) 6).toInt) → (Jr (p 4) 5).toInt - (Jr (p 4) 6).toInt ≤ c' →
    zR q (x5_31 p q sp ln v k s wn c i Jc Lc).1 ((x192_18 p t s v k c' Jr Lr).1 (p 4)) ∧ zW ((x192_18 p t s v k c' Jr Lr).1 (p 4)) b ∧ zKp p q sp Jc Jr (x5_31 p q sp ln v k s wn c i Jc Lc).1 (x192_18 p t s v k c' Jr Lr).1 ∧ (∀ j, j < 6 → (x192_18 p t s v k c' Jr Lr).1 (p 4) j = Jr (p 4) j) ∧ (x192_18 p t s v k c' Jr Lr).1 (p 4) (10 + 7 * s.toNatClampNeg + 4) = 0 ∧ (∀ j, 172 ≤ j → (x192_18 p t s v k c' Jr Lr).1 (p 4) j = Jr (p 4) j) := by
  have n4 : p 4 ≠ p 0 := X.hp 4 0 (by omega) (by omega) (by omega)
  intro c
  induction c with
  | zero =>
    intro c' i Jc Jr Lc Lr hR hW hQ v1 es hs h0 hk hi hi0 hmin hc'
    have stop : ∀ (a b : (Nat → Nat → Int32) × (Nat → Nat → Int64)), (if x175 p s k Jr ≤ 0 then (Jr, Lr) else if x184 p Jr = 0 then (Jr, Lr) else if 0 ≤ (x193 p t s k v Jr Lr).1 then a else b) = (Jr, Lr) := by
      intro a b
      by_cases l0 : x175 p s k Jr ≤ 0
      · rw [if_pos l0]
      · rw [if_neg l0, if_pos]
        unfold x184
        rw [if_pos]
        · rfl
        · apply z_ge.mpr
          have : ¬ (x175 p s k Jr).toInt ≤ 0 := fun c => l0 (z_ge.mpr c)
          omega
    have e : x192_18 p t s v k c' Jr Lr = (Jr, Lr) := by
      cases c' with
      | zero => rw [x192_18]; exact stop _ _
      | succ c' => rw [x192_18]; exact stop _ _
    rw [e, x5_31]
    exact ⟨hR, hW, zKp_r, fun _ _ => rfl, h0, fun _ _ => rfl⟩
  | succ c ih =>
    intro c' i Jc Jr Lc Lr hR hW hQ v1 es hs h0 hk hi hi0 hmin hc'
    have bb := zn_b hW.w
    have nw : ¬ wn ≤ i := fun c => by have := z_ge.mp c; omega
    have nl : ¬ x175 p s k Jr ≤ 0 := fun c => by
      have c := z_ge.mp c
      rw [show (0 : Int32).toInt = 0 from by decide] at c
      omega
    have h6 : (Jr (p 4) 6).toInt < (Jr (p 4) 5).toInt := by omega
    have nh : ¬ x184 p Jr = 0 := by
      unfold x184
      rw [if_neg (fun c => by have := z_ge.mp c; omega)]
      decide
    obtain ⟨d, hd⟩ : ∃ d, c' = d + 1 := ⟨c' - 1, by omega⟩
    subst hd
    have ch := zch (Lc := Lc) (Lr := Lr) (k := k) X hR hW hQ ht v0 v1
    rw [es] at ch
    have fc : ∀ a, a ≠ p 25 → (x6 p q sp ln v k Jc Lc).2.1 a = Jc a := fun a ha => x6_frJ ha
    have fr : ∀ a, a ≠ p 0 → (x193 p t s k v Jr Lr).2.1 a = Jr a := fun a ha => x193_frJ ha
    have er4 : (x193 p t s k v Jr Lr).2.1 (p 4) = Jr (p 4) := fr _ n4
    have hR2 : zR q (x6 p q sp ln v k Jc Lc).2.1 ((x193 p t s k v Jr Lr).2.1 (p 4)) := by
      rw [er4]
      exact zR_ag hR (fun i hi => fc _ (X.hx i 25 hi (by omega)))
    have kp2 : zKp p q sp Jc Jr (x6 p q sp ln v k Jc Lc).2.1 (x193 p t s k v Jr Lr).2.1 := ⟨fun a h1 _ => fc a h1, fun a h1 _ => fr a h1⟩
    rw [x5_31, x192_18, if_neg nw, if_neg nl, if_neg nh]
    rcases ch.2 with en | ⟨b1, b2, b3⟩
    · rw [if_pos en, if_neg (show ¬ 0 ≤ (x193 p t s k v Jr Lr).1 from by rw [← ch.1, en]; decide)]
      refine ⟨hR2, ?_, kp2, ?_, ?_, ?_⟩
      · show zW ((x193 p t s k v Jr Lr).2.1 (p 4)) b
        rw [er4]
        exact hW
      · intro j hj
        exact congrFun er4 j
      · exact (congrFun er4 _).trans h0
      · intro j hj
        exact congrFun er4 j
    · have ne : ¬ (x6 p q sp ln v k Jc Lc).1 = Int32.ofInt (-1) := fun e => by
        rw [e, xi_m1] at b1
        omega
      rw [if_neg ne, if_pos (show 0 ≤ (x193 p t s k v Jr Lr).1 from by rw [← ch.1]; exact z_ge.mpr b1), ← ch.1]
      have xp := zx bb.2.2.2.2.2.2.1 b1 b2
      have sd := z_194 b1 (by omega) b3
      have pt := zput (i := (x6 p q sp ln v k Jc Lc).1) (s := s) (b := b) (Jr := (x193 p t s k v Jr Lr).2.1) X.hq hR2 (by rw [er4]; exact hW) b1 (by rw [er4]; exact b2) ⟨by omega, by rw [er4]; exact hs.2⟩ (fun _ c => by rw [er4, h0] at c; exact absurd c (by decide)) (by rw [er4]; exact sd.2.2.2) (by rw [er4]; exact h6)
      have rw6 : (x185 p (x6 p q sp ln v k Jc Lc).1 s (x193 p t s k v Jr Lr).2.1) (p 4) = zu (zu (zu (Jr (p 4)) (52 + 5 * (x6 p q sp ln v k Jc Lc).1.toNatClampNeg + 3) s) 6 (Jr (p 4) 6 + Int32.ofInt 1)) 8 (Jr (p 4) 8 + Int32.ofInt 1) := by
        unfold x185
        rw [zx_p3 b1 (by omega), zu_r, zu_r, zu_r, er4, zu_k (by omega), zu_k (by omega)]
      have e6 : (Jr (p 4) 6 + Int32.ofInt 1).toInt = (Jr (p 4) 6).toInt + 1 := lx_inc (b := Jr (p 4) 5) (fun c => by have := z_ge.mp c; omega)
      have un : ∀ j, j ≠ 52 + 5 * (x6 p q sp ln v k Jc Lc).1.toNatClampNeg + 3 → j ≠ 6 → j ≠ 8 → (x185 p (x6 p q sp ln v k Jc Lc).1 s (x193 p t s k v Jr Lr).2.1) (p 4) j = Jr (p 4) j := by
        intro j a b c
        rw [rw6, zu_k c, zu_k b, zu_k a]
      have kp3 : zKp p q sp Jc Jr (x74 q (x6 p q sp ln v k Jc Lc).1 s (x6 p q sp ln v k Jc Lc).2.1) (x185 p (x6 p q sp ln v k Jc Lc).1 s (x193 p t s k v Jr Lr).2.1) := zKp_t kp2 ⟨fun a _ h2 => x74_frJ (h2 0 (by omega)) (h2 14 (by omega)), fun a _ h2 => x185_frJ h2⟩
      have ts := z_tn hs.1
      have tk := z_tn hk.1
      have l24 : (x6 p q sp ln v k Jc Lc).1.toNatClampNeg < 24 := by omega
      have v175 := zkn_175 (k := k) hW.w hW.a (zl_of hW (fun _ c => by rw [h0] at c; exact absurd c (by decide))) hs hk
      have z175 := zkn_175 (J := x185 p (x6 p q sp ln v k Jc Lc).1 s (x193 p t s k v Jr Lr).2.1) (s := s) (k := k) pt.2.w pt.2.a (zl_of pt.2 (fun _ c => by rw [un _ (by omega) (by omega) (by omega), h0] at c; exact absurd c (by decide))) ⟨hs.1, by rw [un 1 (by omega) (by omega) (by omega)]; exact hs.2⟩ ⟨hk.1, by rw [un 0 (by omega) (by omega) (by omega)]; exact hk.2⟩
      rw [un (10 + 7 * s.toNatClampNeg + k.toNatClampNeg) (by omega) (by omega) (by omega), zn_ag (un 2 (by omega) (by omega) (by omega)), zkn_mv (e := Jr (p 4)) (m := (x6 p q sp ln v k Jc Lc).1.toNatClampNeg) sd.2.2.1 (by rw [rw6, zu_k (by omega), zu_k (by omega), zu_s]) sd.2.1 sd.1 (fun j h10 hj => un j hj (by omega) (by omega)), if_pos xp.1] at z175
      have h6' : (x185 p (x6 p q sp ln v k Jc Lc).1 s (x193 p t s k v Jr Lr).2.1 (p 4) 6).toInt = (Jr (p 4) 6).toInt + 1 := by rw [rw6, zu_k (by omega), zu_s, e6]
      have u5 := un 5 (by omega) (by omega) (by omega)
      have fin := ih d (i + Int32.ofInt 1) _ _ (x6 p q sp ln v k Jc Lc).2.2 (x193 p t s k v Jr Lr).2.2 pt.1 pt.2 (zKp_Q X hsq kp3 hQ) (by rw [un 3 (by omega) (by omega) (by omega)]; exact v1) (by rw [un _ (by omega) (by omega) (by omega)]; exact es) ⟨hs.1, by rw [un 1 (by omega) (by omega) (by omega)]; exact hs.2⟩ (by rw [un _ (by omega) (by omega) (by omega)]; exact h0) ⟨hk.1, by rw [un 0 (by omega) (by omega) (by omega)]; exact hk.2⟩ (by rw [lx_inc nw]; omega) (zi_i nw hi0) (by rw [z175, h6', u5]; omega) (by rw [h6', u5]; omega)
      refine ⟨fin.1, fin.2.1, zKp_t kp3 fin.2.2.1, fun j hj => (fin.2.2.2.1 j hj).trans (un j (by omega) (by omega) (by omega)), fin.2.2.2.2.1, fun j hj => (fin.2.2.2.2.2 j hj).trans (un j (by omega) (by omega) (by omega))⟩
