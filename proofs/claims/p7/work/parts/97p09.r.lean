/-! rules: steps on a stack, told by lists -/
def zap (x : Int32) (st : List Int64) : Option (List Int64) := if x = Int32.ofInt 21 then (match st with | a :: r => some ((Int64.ofNat 1 - a) :: r) | [] => none) else (match st with | b :: a :: r => some (x44 x a b :: r) | _ => none)
abbrev zpu (x : Int32) : Prop := ¬ x < Int32.ofInt 100 ∨ (¬ x < 0 ∧ ¬ Int32.ofInt 10 ≤ x)
def zcs (w : Nat → Int64) (x : Int32) (st : List Int64) : Option (List Int64) := if x < Int32.ofInt 100 then (if x < 0 then zap x st else if Int32.ofInt 10 ≤ x then zap x st else some (w x.toNatClampNeg :: st)) else some ((x - Int32.ofInt 100).toInt64 :: st)
def zcr (w : Nat → Int64) (g : Nat → Int32) : Nat → Nat → List Int64 → Option (List Int64)
  | 0, _, st => some st
  | n + 1, a, st => (zcs w (g a) st).bind (zcr w g n (a + 1))
def zpc (g : Nat → Int32) : Nat → Nat → Nat
  | 0, _ => 0
  | n + 1, a => (if zpu (g a) then 1 else 0) + zpc g n (a + 1)
theorem zcr_add {w : Nat → Int64} {g : Nat → Int32} {m : Nat} : ∀ (n a : Nat) (st : List Int64), zcr w g (n + m) a st = (zcr w g n a st).bind (zcr w g m (a + n)) := by
  intro n
  induction n with
  | zero => intro a st; rw [Nat.zero_add]; rfl
  | succ n ih =>
    intro a st
    rw [show n + 1 + m = (n + m) + 1 from by omega, zcr, zcr]
    cases zcs w (g a) st with
    | none => rfl
    | some s =>
      show zcr w g (n + m) (a + 1) s = (zcr w g n (a + 1) s).bind _
      rw [ih, show a + 1 + n = a + (n + 1) from by omega]
theorem zcr_ag {w : Nat → Int64} {g h : Nat → Int32} : ∀ (n a : Nat) (st : List Int64), (∀ j, a ≤ j → j < a + n → h j = g j) → zcr w h n a st = zcr w g n a st := by
  intro n
  induction n with
  | zero => intro a st _; rfl
  | succ n ih =>
    intro a st hg
    rw [zcr, zcr, hg a (by omega) (by omega)]
    congr 1
    funext s
    exact ih _ _ (fun j h1 h2 => hg j (by omega) (by omega))
theorem zpc_add {g : Nat → Int32} {m : Nat} : ∀ (n a : Nat), zpc g (n + m) a = zpc g n a + zpc g m (a + n) := by
  intro n
  induction n with
  | zero => intro a; rw [Nat.zero_add]; show _ = 0 + zpc g m (a + 0); rw [Nat.zero_add]; rfl
  | succ n ih =>
    intro a
    rw [show n + 1 + m = (n + m) + 1 from by omega, zpc, zpc, ih, show a + 1 + n = a + (n + 1) from by omega]
    omega
theorem zpc_ag {g h : Nat → Int32} : ∀ (n a : Nat), (∀ j, a ≤ j → j < a + n → h j = g j) → zpc h n a = zpc g n a := by
  intro n
  induction n with
  | zero => intro a _; rfl
  | succ n ih =>
    intro a hg
    rw [zpc, zpc, hg a (by omega) (by omega), ih _ (fun j h1 h2 => hg j (by omega) (by omega))]
/-- a row holds a stack -/
def zst (F : Nat → Int64) : List Int64 → Prop
  | [] => True
  | v :: r => F r.length = v ∧ zst F r
theorem zst_ag {F G : Nat → Int64} : ∀ st, (∀ i, i < st.length → G i = F i) → zst F st → zst G st := by
  intro st
  induction st with
  | nil => intro _ _; trivial
  | cons v r ih =>
    intro h hs
    exact ⟨(h _ (by simp)).trans hs.1, ih (fun i hi => h i (by simp; omega)) hs.2⟩
theorem zcs_len {w : Nat → Int64} {x : Int32} {st s : List Int64} (h : zcs w x st = some s) : s.length ≤ st.length + (if zpu x then 1 else 0) := by
  have ap : zap x st = some s → s.length ≤ st.length := by
    intro h
    unfold zap at h
    split at h
    · split at h
      · cases h; simp
      · cases h
    · split at h
      · cases h; simp
      · cases h
  unfold zcs at h
  by_cases c1 : x < Int32.ofInt 100
  · rw [if_pos c1] at h
    by_cases c2 : x < 0
    · rw [if_pos c2] at h
      have := ap h
      omega
    · rw [if_neg c2] at h
      by_cases c3 : Int32.ofInt 10 ≤ x
      · rw [if_pos c3] at h
        have := ap h
        omega
      · rw [if_neg c3] at h
        cases h
        rw [if_pos (show zpu x from Or.inr ⟨c2, c3⟩)]
        simp
  · rw [if_neg c1] at h
    cases h
    rw [if_pos (show zpu x from Or.inl c1)]
    simp
theorem zi_o {n : Nat} (h : n < 1000) : (Int32.ofInt (n : Int)).toNatClampNeg = n := by
  show Int.toNat _ = n
  rw [xi_k h]
  omega
theorem z_eqn {x : Int32} {n : Nat} (h : x.toInt = n) (hn : n < 1000) : x = Int32.ofInt (n : Int) := (zi_n hn).mpr h
theorem z_sub {x : Int32} {n k : Nat} (h : x.toInt = n) (hk : k ≤ n) (hn : n < 1000) : (x - Int32.ofInt (k : Int)).toInt = (n - k : Nat) := by
  rw [Int32.toInt_sub, xi_k (by omega), h, Int.bmod_eq_of_le (by omega) (by omega)]
  omega
/-- the class: one step, told by lists -/
def zCS (p : Nat → Nat) (w : Nat → Int64) (J : Nat → Nat → Int32) (L : Nat → Nat → Int64) (J0 : Nat → Nat → Int32) (L0 : Nat → Nat → Int64) (st : List Int64) : Prop := ((J (p 25) 2).toInt = (st.length : Nat)) ∧ (st.length ≤ 60) ∧ (zst (L (p 27)) st) ∧ (∀ k, k < 10 → L (p 26) k = w k) ∧ (∀ a, a ≠ p 25 → J a = J0 a) ∧ (∀ j, j ≠ 2 → J (p 25) j = J0 (p 25) j) ∧ (∀ a, a ≠ p 25 → a ≠ p 27 → L a = L0 a)
theorem zCS.top {p : Nat → Nat} {w : Nat → Int64} {J : Nat → Nat → Int32} {L : Nat → Nat → Int64} {J0 : Nat → Nat → Int32} {L0 : Nat → Nat → Int64} {st : List Int64} (h_ : zCS p w J L J0 L0 st) : (J (p 25) 2).toInt = (st.length : Nat) := h_.1
theorem zCS.le {p : Nat → Nat} {w : Nat → Int64} {J : Nat → Nat → Int32} {L : Nat → Nat → Int64} {J0 : Nat → Nat → Int32} {L0 : Nat → Nat → Int64} {st : List Int64} (h_ : zCS p w J L J0 L0 st) : st.length ≤ 60 := h_.2.1
theorem zCS.row {p : Nat → Nat} {w : Nat → Int64} {J : Nat → Nat → Int32} {L : Nat → Nat → Int64} {J0 : Nat → Nat → Int32} {L0 : Nat → Nat → Int64} {st : List Int64} (h_ : zCS p w J L J0 L0 st) : zst (L (p 27)) st := h_.2.2.1
theorem zCS.wd {p : Nat → Nat} {w : Nat → Int64} {J : Nat → Nat → Int32} {L : Nat → Nat → Int64} {J0 : Nat → Nat → Int32} {L0 : Nat → Nat → Int64} {st : List Int64} (h_ : zCS p w J L J0 L0 st) : ∀ k, k < 10 → L (p 26) k = w k := h_.2.2.2.1
theorem zCS.oj {p : Nat → Nat} {w : Nat → Int64} {J : Nat → Nat → Int32} {L : Nat → Nat → Int64} {J0 : Nat → Nat → Int32} {L0 : Nat → Nat → Int64} {st : List Int64} (h_ : zCS p w J L J0 L0 st) : ∀ a, a ≠ p 25 → J a = J0 a := h_.2.2.2.2.1
theorem zCS.oj2 {p : Nat → Nat} {w : Nat → Int64} {J : Nat → Nat → Int32} {L : Nat → Nat → Int64} {J0 : Nat → Nat → Int32} {L0 : Nat → Nat → Int64} {st : List Int64} (h_ : zCS p w J L J0 L0 st) : ∀ j, j ≠ 2 → J (p 25) j = J0 (p 25) j := h_.2.2.2.2.2.1
theorem zCS.ol {p : Nat → Nat} {w : Nat → Int64} {J : Nat → Nat → Int32} {L : Nat → Nat → Int64} {J0 : Nat → Nat → Int32} {L0 : Nat → Nat → Int64} {st : List Int64} (h_ : zCS p w J L J0 L0 st) : ∀ a, a ≠ p 25 → a ≠ p 27 → L a = L0 a := h_.2.2.2.2.2.2
def zpd (p : Nat → Nat) : Prop := ∀ i j, i < 66 → j < 66 → i ≠ j → p i ≠ p j
theorem zc_push {p : Nat → Nat} {w : Nat → Int64} {J J0 : Nat → Nat → Int32} {L L0 : Nat → Nat → Int64} {st : List Int64} {v : Int64} (hp : zpd p) (h : zCS p w J L J0 L0 st) (hl : st.length < 60) : zCS p w (x42 p v J L).1 (x42 p v J L).2 J0 L0 (v :: st) := by
  have t := h.top
  have c : ¬ Int32.ofNat 60 ≤ J (p 25) 2 := fun c => by
    have c := z_ge.mp c
    rw [show (Int32.ofNat 60).toInt = 60 from by decide] at c
    omega
  have e1 : (J (p 25) 2 + Int32.ofInt 1).toInt = st.length + 1 := by
    rw [lx_inc c]
    omega
  have e2 : (J (p 25) 2).toNatClampNeg = st.length := z_i3 t
  unfold x42
  rw [if_neg c, e2]
  refine ⟨?_, by simp; omega, ?_, ?_, ?_, ?_, ?_⟩
  · show (nt_u J (p 25) 2 (J (p 25) 2 + Int32.ofInt 1) (p 25) 2).toInt = _
    rw [me_us, e1]
    simp
  · show nt_u L (p 27) st.length v (p 27) st.length = v ∧ zst (nt_u L (p 27) st.length v (p 27)) st
    exact ⟨mu_s, zst_ag _ (fun i hi => mu_k (by omega)) h.row⟩
  · intro k hk
    show nt_u L (p 27) st.length v (p 26) k = _
    rw [mu_j (hp 26 27 (by omega) (by omega) (by omega))]
    exact h.wd k hk
  · intro a ha
    exact (me_uo ha).trans (h.oj a ha)
  · intro j hj
    exact (me_uk hj).trans (h.oj2 j hj)
  · intro a ha hb
    exact (mu_o hb).trans (h.ol a ha hb)
theorem zc_apply {p : Nat → Nat} {w : Nat → Int64} {J J0 : Nat → Nat → Int32} {L L0 : Nat → Nat → Int64} {st s : List Int64} {x : Int32} (hp : zpd p) (h : zCS p w J L J0 L0 st) (hs : zap x st = some s) : zCS p w (x43 p x J L).1 (x43 p x J L).2 J0 L0 s := by
  have t := h.top
  have le := h.le
  have ro := h.row
  unfold zap at hs
  by_cases c : x = Int32.ofInt 21
  · rw [if_pos c] at hs
    cases st with
    | nil => cases hs
    | cons a r =>
      cases hs
      have t : (J (p 25) 2).toInt = (r.length + 1 : Nat) := t
      have g : ¬ J (p 25) 2 < Int32.ofInt 1 := fun c => by
        have c := Int32.lt_iff_toInt_lt.mp c
        rw [show (Int32.ofInt 1).toInt = 1 from by decide] at c
        omega
      have e : (J (p 25) 2 - Int32.ofInt 1).toNatClampNeg = r.length := by
        apply z_i3
        rw [show (J (p 25) 2 - Int32.ofInt 1).toInt = _ from z_sub (k := 1) t (by omega) (by simp at le; omega)]
        rfl
      unfold x43
      rw [if_pos c, if_neg g, e, ro.1]
      refine ⟨t, le, ⟨mu_s, zst_ag _ (fun i hi => mu_k (by omega)) ro.2⟩, ?_, h.oj, h.oj2, ?_⟩
      · intro k hk
        show nt_u L (p 27) r.length _ (p 26) k = _
        rw [mu_j (hp 26 27 (by omega) (by omega) (by omega))]
        exact h.wd k hk
      · intro b hb hc
        exact (mu_o hc).trans (h.ol b hb hc)
  · rw [if_neg c] at hs
    cases st with
    | nil => cases hs
    | cons b r1 =>
      cases r1 with
      | nil => cases hs
      | cons a r =>
        cases hs
        have t : (J (p 25) 2).toInt = (r.length + 2 : Nat) := t
        have le : r.length + 2 ≤ 60 := le
        have g : ¬ J (p 25) 2 < Int32.ofInt 2 := fun c => by
          have c := Int32.lt_iff_toInt_lt.mp c
          rw [show (Int32.ofInt 2).toInt = 2 from by decide] at c
          omega
        have e0 : (J (p 25) 2 - Int32.ofInt 1).toInt = (r.length + 1 : Nat) := z_sub (k := 1) t (by omega) (by omega)
        have e1 : (J (p 25) 2 - Int32.ofInt 1).toNatClampNeg = r.length + 1 := z_i3 e0
        have e2 : (J (p 25) 2 - Int32.ofInt 1 - Int32.ofInt 1).toNatClampNeg = r.length := z_i3 (z_sub (k := 1) e0 (by omega) (by omega))
        unfold x43
        rw [if_neg c, if_neg g, e2, e1, show L (p 27) (r.length + 1) = b from ro.1, show L (p 27) r.length = a from ro.2.1]
        refine ⟨?_, by simp; omega, ⟨mu_s, zst_ag _ (fun i hi => mu_k (by omega)) ro.2.2⟩, ?_, ?_, ?_, ?_⟩
        · show (nt_u J (p 25) 2 _ (p 25) 2).toInt = _
          rw [me_us, e0]
          rfl
        · intro k hk
          show nt_u L (p 27) r.length _ (p 26) k = _
          rw [mu_j (hp 26 27 (by omega) (by omega) (by omega))]
          exact h.wd k hk
        · intro d hd
          exact (me_uo hd).trans (h.oj d hd)
        · intro j hj
          exact (me_uk hj).trans (h.oj2 j hj)
        · intro d hd hc
          exact (mu_o hc).trans (h.ol d hd hc)
/-- the class: steps that are no TAKE -/
theorem zc_run {p : Nat → Nat} {sp ln : Nat} {w : Nat → Int64} {J0 : Nat → Nat → Int32} {L0 : Nat → Nat → Int64} {g : Nat → Int32} (hp : zpd p) (hsp : sp ≠ p 25) (hg : ∀ j, j < ln → J0 sp j = g j) (hln : ln ≤ 400) : ∀ (n a c : Nat) (st s : List Int64) (J : Nat → Nat → Int32) (L : Nat → Nat → Int64), zCS p w J L J0 L0 st → a + n ≤ ln → st.length + zpc g n a ≤ 60 → (∀ j, a ≤ j → j < a + n → g j ≠ Int32.ofInt 22 ∧ g j ≠ Int32.ofInt 23) → zcr w g n a st = some s → ∃ J1 L1, zCS p w J1 L1 J0 L0 s ∧ x41_7 p sp ln (c + n) (Int32.ofInt (a : Int)) J L = x41_7 p sp ln c (Int32.ofInt ((a + n : Nat) : Int)) J1 L1 := by
  intro n
  induction n with
  | zero =>
    intro a c st s J L h ha hl ht hr
    cases hr
    exact ⟨J, L, h, rfl⟩
  | succ n ih =>
    intro a c st s J L h ha hl ht hr
    rw [zcr] at hr
    cases hz : zcs w (g a) st with
    | none =>
      rw [hz] at hr
      cases hr
    | some s1 =>
      rw [hz] at hr
      have hr : zcr w g n (a + 1) s1 = some s := hr
      have l1 := zcs_len hz
      rw [zpc] at hl
      have ia : (Int32.ofInt (a : Int)).toNatClampNeg = a := zi_o (by omega)
      have ea : J sp a = g a := (congrFun (h.oj sp hsp) a).trans (hg a (by omega))
      have e1 : Int32.ofInt (a : Int) + Int32.ofInt 1 = Int32.ofInt ((a + 1 : Nat) : Int) := by
        rw [← Int32.ofInt_add]
        rfl
      have nb : ¬ Int32.ofNat ln ≤ Int32.ofInt (a : Int) := fun c => by
        have c := z_ge.mp c
        rw [xi_k (by omega), show Int32.ofNat ln = Int32.ofInt (ln : Int) from rfl, xi_k (by omega)] at c
        omega
      have hx := ht a (by omega) (by omega)
      have key : ∃ J1 L1, zCS p w J1 L1 J0 L0 s1 ∧ x41_7 p sp ln (c + (n + 1)) (Int32.ofInt (a : Int)) J L = x41_7 p sp ln (c + n) (Int32.ofInt ((a + 1 : Nat) : Int)) J1 L1 := by
        rw [show c + (n + 1) = (c + n) + 1 from by omega, x41_7, if_neg nb, ia, ea, e1]
        unfold zcs at hz
        by_cases c1 : g a < Int32.ofInt 100
        · rw [if_pos c1] at hz ⊢
          by_cases c2 : g a < 0
          · rw [if_pos c2] at hz ⊢
            rw [if_neg hx.1, if_neg hx.2]
            exact ⟨_, _, zc_apply hp h hz, rfl⟩
          · rw [if_neg c2] at hz ⊢
            by_cases c3 : Int32.ofInt 10 ≤ g a
            · rw [if_pos c3] at hz ⊢
              rw [if_neg hx.1, if_neg hx.2]
              exact ⟨_, _, zc_apply hp h hz, rfl⟩
            · rw [if_neg c3] at hz ⊢
              cases hz
              have k10 : (g a).toNatClampNeg < 10 := by
                have d : ¬ (Int32.ofInt 10).toInt ≤ (g a).toInt := fun z => c3 (z_ge.mpr z)
                rw [show (Int32.ofInt 10).toInt = 10 from by decide] at d
                rw [zn_t]
                omega
              rw [if_pos (show zpu (g a) from Or.inr ⟨c2, c3⟩)] at hl
              rw [h.wd _ k10]
              exact ⟨_, _, zc_push hp h (by omega), rfl⟩
        · rw [if_neg c1] at hz ⊢
          cases hz
          rw [if_pos (show zpu (g a) from Or.inl c1)] at hl
          exact ⟨_, _, zc_push hp h (by omega), rfl⟩
      obtain ⟨J1, L1, h1, e2⟩ := key
      obtain ⟨J2, L2, h2, e3⟩ := ih (a + 1) c s1 s J1 L1 h1 (by omega) (by omega) (fun j h1 h2 => ht j (by omega) (by omega)) hr
      refine ⟨J2, L2, h2, ?_⟩
      rw [e2, e3, show a + 1 + n = a + (n + 1) from by omega]
/-! the reference -/
def zrs (w : Nat → Int64) (y : Int32) (st : List Int64) : Option (List Int64) := if (y &&& Int32.ofInt 15) = 0 then some ((y >>> (Int32.ofInt 4 &&& 31)).toInt64 :: st) else if (y &&& Int32.ofInt 15) = Int32.ofInt 1 then some (w (y >>> (Int32.ofInt 4 &&& 31)).toNatClampNeg :: st) else if (y &&& Int32.ofInt 15) = Int32.ofInt 11 then (match st with | a :: r => some ((Int64.ofNat 1 - a) :: r) | [] => none) else (match st with | b :: a :: r => some (x201 (y &&& Int32.ofInt 15) a b :: r) | _ => none)
def zwk (y : Int32) : Prop := (y &&& Int32.ofInt 15) = Int32.ofInt 1 → (y >>> (Int32.ofInt 4 &&& 31)).toNatClampNeg < 10
def zrr (w : Nat → Int64) (g : Nat → Int32) : Nat → Nat → List Int64 → Option (List Int64)
  | 0, _, st => some st
  | n + 1, a, st => (zrs w (g a) st).bind (zrr w g n (a + 1))
theorem zrr_add {w : Nat → Int64} {g : Nat → Int32} {m : Nat} : ∀ (n a : Nat) (st : List Int64), zrr w g (n + m) a st = (zrr w g n a st).bind (zrr w g m (a + n)) := by
  intro n
  induction n with
  | zero => intro a st; rw [Nat.zero_add]; rfl
  | succ n ih =>
    intro a st
    rw [show n + 1 + m = (n + m) + 1 from by omega, zrr, zrr]
    cases zrs w (g a) st with
    | none => rfl
    | some s =>
      show zrr w g (n + m) (a + 1) s = (zrr w g n (a + 1) s).bind _
      rw [ih, show a + 1 + n = a + (n + 1) from by omega]
theorem zrr_ag {w : Nat → Int64} {g h : Nat → Int32} : ∀ (n a : Nat) (st : List Int64), (∀ j, a ≤ j → j < a + n → h j = g j) → zrr w h n a st = zrr w g n a st := by
  intro n
  induction n with
  | zero => intro a st _; rfl
  | succ n ih =>
    intro a st hg
    rw [zrr, zrr, hg a (by omega) (by omega)]
    congr 1
    funext s
    exact ih _ _ (fun j h1 h2 => hg j (by omega) (by omega))
theorem zrs_len {w : Nat → Int64} {y : Int32} {st s : List Int64} (h : zrs w y st = some s) : s.length ≤ st.length + 1 := by
  unfold zrs at h
  split at h
  · cases h; simp
  · split at h
    · cases h; simp
    · split at h
      · split at h
        · cases h; simp
        · cases h
      · split at h
        · cases h; simp
        · cases h
def zRS (p : Nat → Nat) (w : Nat → Int64) (J : Nat → Nat → Int32) (L : Nat → Nat → Int64) (J0 : Nat → Nat → Int32) (L0 : Nat → Nat → Int64) (st : List Int64) : Prop := ((J (p 0) 25).toInt = (st.length : Nat)) ∧ (zst (L (p 5)) st) ∧ (∀ k, k < 10 → L (p 6) k = w k) ∧ (∀ a, a ≠ p 0 → J a = J0 a) ∧ (∀ j, j ≠ 25 → J (p 0) j = J0 (p 0) j) ∧ (∀ a, a ≠ p 5 → L a = L0 a)
theorem zRS.top {p : Nat → Nat} {w : Nat → Int64} {J : Nat → Nat → Int32} {L : Nat → Nat → Int64} {J0 : Nat → Nat → Int32} {L0 : Nat → Nat → Int64} {st : List Int64} (h_ : zRS p w J L J0 L0 st) : (J (p 0) 25).toInt = (st.length : Nat) := h_.1
theorem zRS.row {p : Nat → Nat} {w : Nat → Int64} {J : Nat → Nat → Int32} {L : Nat → Nat → Int64} {J0 : Nat → Nat → Int32} {L0 : Nat → Nat → Int64} {st : List Int64} (h_ : zRS p w J L J0 L0 st) : zst (L (p 5)) st := h_.2.1
theorem zRS.wd {p : Nat → Nat} {w : Nat → Int64} {J : Nat → Nat → Int32} {L : Nat → Nat → Int64} {J0 : Nat → Nat → Int32} {L0 : Nat → Nat → Int64} {st : List Int64} (h_ : zRS p w J L J0 L0 st) : ∀ k, k < 10 → L (p 6) k = w k := h_.2.2.1
theorem zRS.oj {p : Nat → Nat} {w : Nat → Int64} {J : Nat → Nat → Int32} {L : Nat → Nat → Int64} {J0 : Nat → Nat → Int32} {L0 : Nat → Nat → Int64} {st : List Int64} (h_ : zRS p w J L J0 L0 st) : ∀ a, a ≠ p 0 → J a = J0 a := h_.2.2.2.1
theorem zRS.oj2 {p : Nat → Nat} {w : Nat → Int64} {J : Nat → Nat → Int32} {L : Nat → Nat → Int64} {J0 : Nat → Nat → Int32} {L0 : Nat → Nat → Int64} {st : List Int64} (h_ : zRS p w J L J0 L0 st) : ∀ j, j ≠ 25 → J (p 0) j = J0 (p 0) j := h_.2.2.2.2.1
theorem zRS.ol {p : Nat → Nat} {w : Nat → Int64} {J : Nat → Nat → Int32} {L : Nat → Nat → Int64} {J0 : Nat → Nat → Int32} {L0 : Nat → Nat → Int64} {st : List Int64} (h_ : zRS p w J L J0 L0 st) : ∀ a, a ≠ p 5 → L a = L0 a := h_.2.2.2.2.2
theorem zr_push {p : Nat → Nat} {w : Nat → Int64} {J J0 : Nat → Nat → Int32} {L L0 : Nat → Nat → Int64} {st : List Int64} {v : Int64} (hp : zpd p) (h : zRS p w J L J0 L0 st) (hl : st.length < 900) : zRS p w (x199 p v J L).1 (x199 p v J L).2 J0 L0 (v :: st) := by
  have t := h.top
  have e1 : (J (p 0) 25 + Int32.ofInt 1).toInt = st.length + 1 := by
    rw [Int32.toInt_add, show (Int32.ofInt 1).toInt = 1 from by decide, Int.bmod_eq_of_le (by omega) (by omega)]
    omega
  have e2 : (J (p 0) 25).toNatClampNeg = st.length := z_i3 t
  unfold x199
  rw [e2]
  refine ⟨?_, ⟨mu_s, zst_ag _ (fun i hi => mu_k (by omega)) h.row⟩, ?_, ?_, ?_, ?_⟩
  · show (nt_u J (p 0) 25 (J (p 0) 25 + Int32.ofInt 1) (p 0) 25).toInt = _
    rw [me_us, e1]
    simp
  · intro k hk
    show nt_u L (p 5) st.length v (p 6) k = _
    rw [mu_j (hp 6 5 (by omega) (by omega) (by omega))]
    exact h.wd k hk
  · intro a ha
    exact (me_uo ha).trans (h.oj a ha)
  · intro j hj
    exact (me_uk hj).trans (h.oj2 j hj)
  · intro a ha
    exact (mu_o ha).trans (h.ol a ha)
theorem zr_pop {p : Nat → Nat} {w : Nat → Int64} {J J0 : Nat → Nat → Int32} {L L0 : Nat → Nat → Int64} {r : List Int64} {v : Int64} (h : zRS p w J L J0 L0 (v :: r)) (hl : r.length < 900) : (x200 p J L).1 = v ∧ zRS p w (x200 p J L).2 L J0 L0 r := by
  have t : (J (p 0) 25).toInt = (r.length + 1 : Nat) := h.top
  have e0 : (J (p 0) 25 - Int32.ofInt 1).toInt = (r.length : Nat) := z_sub (k := 1) t (by omega) (by omega)
  have e1 := z_i3 e0
  unfold x200
  refine ⟨?_, ?_, h.row.2, h.wd, ?_, ?_, h.ol⟩
  · show L (p 5) (J (p 0) 25 - Int32.ofInt 1).toNatClampNeg = v
    rw [e1]
    exact h.row.1
  · show (nt_u J (p 0) 25 _ (p 0) 25).toInt = _
    rw [me_us, e0]
  · intro a ha
    exact (me_uo ha).trans (h.oj a ha)
  · intro j hj
    exact (me_uk hj).trans (h.oj2 j hj)
theorem zr_run {p : Nat → Nat} {t e : Int32} {T E : Nat} {w : Nat → Int64} {J0 : Nat → Nat → Int32} {L0 : Nat → Nat → Int64} {g : Nat → Int32} (hp : zpd p) (ht : t.toInt = (T : Nat)) (hT : T < 6) (he : e.toInt = (E : Nat)) (hE : E ≤ 400) (hg : ∀ j, j < E → J0 (p 1) (400 * T + j) = g j) : ∀ (n a : Nat) (st s : List Int64) (J : Nat → Nat → Int32) (L : Nat → Nat → Int64), zRS p w J L J0 L0 st → a + n = E → st.length + n ≤ 800 → (∀ j, a ≤ j → j < a + n → zwk (g j)) → zrr w g n a st = some s → ∃ J1 L1, zRS p w J1 L1 J0 L0 s ∧ x198_8 p t e n (Int32.ofInt (a : Int)) J L = ((x200 p J1 L1).1, (x200 p J1 L1).2, L1) := by
  intro n
  induction n with
  | zero =>
    intro a st s J L h ha hl hw hr
    cases hr
    exact ⟨J, L, h, rfl⟩
  | succ n ih =>
    intro a st s J L h ha hl hw hr
    rw [zrr] at hr
    cases hz : zrs w (g a) st with
    | none =>
      rw [hz] at hr
      cases hr
    | some s1 =>
      rw [hz] at hr
      have hr : zrr w g n (a + 1) s1 = some s := hr
      have l1 := zrs_len hz
      have ia : ((Int32.ofInt 400 * t) + Int32.ofInt (a : Int)).toNatClampNeg = 400 * T + a := by
        show Int.toNat _ = _
        rw [Int32.toInt_add, Int32.toInt_mul, xi_k (by omega), ht, show (Int32.ofInt 400).toInt = 400 from by decide, Int.bmod_eq_of_le (n := (400 * T : Int)) (by omega) (by omega), Int.bmod_eq_of_le (by omega) (by omega)]
        omega
      have ea : J (p 1) (400 * T + a) = g a := (congrFun (h.oj (p 1) (hp 1 0 (by omega) (by omega) (by omega))) _).trans (hg a (by omega))
      have e1 : Int32.ofInt (a : Int) + Int32.ofInt 1 = Int32.ofInt ((a + 1 : Nat) : Int) := by
        rw [← Int32.ofInt_add]
        rfl
      have nb : ¬ e ≤ Int32.ofInt (a : Int) := fun c => by
        have c := z_ge.mp c
        rw [xi_k (by omega), he] at c
        omega
      have hx := hw a (by omega) (by omega)
      have key : ∃ J1 L1, zRS p w J1 L1 J0 L0 s1 ∧ x198_8 p t e (n + 1) (Int32.ofInt (a : Int)) J L = x198_8 p t e n (Int32.ofInt ((a + 1 : Nat) : Int)) J1 L1 := by
        rw [x198_8, if_neg nb, ia, ea, e1]
        unfold zrs at hz
        by_cases c1 : (g a &&& Int32.ofInt 15) = 0
        · rw [if_pos c1] at hz ⊢
          cases hz
          exact ⟨_, _, zr_push hp h (by omega), rfl⟩
        · rw [if_neg c1] at hz ⊢
          by_cases c2 : (g a &&& Int32.ofInt 15) = Int32.ofInt 1
          · rw [if_pos c2] at hz ⊢
            cases hz
            rw [h.wd _ (hx c2)]
            exact ⟨_, _, zr_push hp h (by omega), rfl⟩
          · rw [if_neg c2] at hz ⊢
            by_cases c3 : (g a &&& Int32.ofInt 15) = Int32.ofInt 11
            · rw [if_pos c3] at hz ⊢
              cases st with
              | nil => cases hz
              | cons v r =>
                cases hz
                simp at hl
                have q := zr_pop h (by omega)
                rw [q.1]
                exact ⟨_, _, zr_push hp q.2 (by omega), rfl⟩
            · rw [if_neg c3] at hz ⊢
              cases st with
              | nil => cases hz
              | cons b r1 =>
                cases r1 with
                | nil => cases hz
                | cons v r =>
                  cases hz
                  simp at hl
                  have q := zr_pop h (by simp; omega)
                  have q2 := zr_pop q.2 (by omega)
                  rw [q.1, q2.1]
                  exact ⟨_, _, zr_push hp q2.2 (by omega), rfl⟩
      obtain ⟨J1, L1, h1, e2⟩ := key
      obtain ⟨J2, L2, h2, e3⟩ := ih (a + 1) s1 s J1 L1 h1 (by omega) (by omega) (fun j h1 h2 => hw j (by omega) (by omega)) hr
      exact ⟨J2, L2, h2, by rw [e2, e3]⟩
