/-! the text's rows, told purely: f the bytes, t how many -/
theorem me_addn {a b : Nat} : nI a + nI b = nI (a + b) := (Int32.ofNat_add a b).symm
theorem me_add {a k : Nat} : nI a + Int32.ofInt (k : Int) = nI (a + k) := by
  rw [me_addn.symm]
  rfl
theorem me_subn {a b : Nat} (h : b ≤ a) : nI a - nI b = nI (a - b) := by
  have e : nI a = nI (a - b) + nI b := by rw [me_addn, Nat.sub_add_cancel h]
  rw [e, Int32.add_sub_cancel]
theorem me_ne {a b : Nat} (h : ¬ a = b) (ha : a < 2 ^ 31) (hb : b < 2 ^ 31) : ¬ nI a = nI b := by
  intro e
  have e := congrArg Int32.toInt e
  rw [nI_toInt ha, nI_toInt hb] at e
  omega
theorem me_min {X : nt_X} {d mi pc a b t : Nat} {i : Nat} {ls : nt_V} {st : List Value} {M : nt_M} {o : Option Value × nt_M} (ha : a < 2 ^ 31) (hb : b < 2 ^ 31) (hat : nt_at mi pc = some (pc, .invokestatic i, 1003, t)) (k : nt_rn X d mi (pc, ls, .int (nI b) :: .int (nI a) :: st, M) o) : nt_rn X d mi (pc + 3, ls, .int (nI (min a b)) :: st, M) o := by
  obtain ⟨c', hs, k⟩ := lz_n (g := 1003) (q := 0) hat rfl (by decide) (Or.inl ⟨_, rfl, rfl⟩) k
  have hs : (if 1 ≤ d ∧ nt_ct st ≤ 8 then some (pc + 3, ls, Value.int (if nI b < nI a then nI b else nI a) :: st, M) else none) = some c' := hs
  obtain ⟨_, e⟩ := nt_if_some hs
  cases e
  by_cases c : b < a
  · rw [if_pos (nI_lt c ha)] at k
    rw [Nat.min_eq_right (by omega)]
    exact k
  · rw [if_neg (nI_nlt (by omega) hb)] at k
    rw [Nat.min_eq_left (by omega)]
    exact k
/-- a word's letters -/
def lb_W (a : Nat) : List Int32 := nt_SB.getD (nt_si a) []
theorem me_slen {X : nt_X} {d mi pc a t : Nat} {i : Nat} {ls : nt_V} {st : List Value} {M : nt_M} {o : Option Value × nt_M} (hat : nt_at mi pc = some (pc, .invokevirtual i, 1004, t)) (k : nt_rn X d mi (pc, ls, .ref a :: st, M) o) : (nt_sp < a ∧ a < nt_sp + 19) ∧ nt_rn X d mi (pc + 3, ls, .int (nI (lb_W a).length) :: st, M) o := by
  obtain ⟨c', hs, k⟩ := lz_n (g := 1004) (q := 1) hat rfl (by decide) (Or.inr (Or.inl ⟨_, rfl, rfl⟩)) k
  have hs : (if 4 ≤ d ∧ nt_ct st ≤ 8 ∧ nt_sp < a ∧ a < nt_sp + 19 then some (pc + 3, ls, Value.int (Int32.ofNat (nt_SB.getD (nt_si a) []).length) :: st, M) else none) = some c' := hs
  obtain ⟨q, e⟩ := nt_if_some hs
  cases e
  exact ⟨q.2.2, k⟩
theorem me_char {X : nt_X} {d mi pc a t q : Nat} {i : Nat} {ls : nt_V} {st : List Value} {M : nt_M} {o : Option Value × nt_M} (hat : nt_at mi pc = some (pc, .invokevirtual i, 1005, t)) (hq : q < 2 ^ 31) (k : nt_rn X d mi (pc, ls, .int (nI q) :: .ref a :: st, M) o) : nt_rn X d mi (pc + 3, ls, .int ((lb_W a).getD q 0) :: st, M) o := by
  obtain ⟨c', hs, k⟩ := lz_n (g := 1005) (q := 1) hat rfl (by decide) (Or.inr (Or.inl ⟨_, rfl, rfl⟩)) k
  have hs : (if 4 ≤ d ∧ nt_ct st ≤ 8 ∧ nt_sp < a ∧ a < nt_sp + 19 ∧ ¬ (nI q < 0 ∨ (nt_SB.getD (nt_si a) []).length ≤ (nI q).toNatClampNeg) then some (pc + 3, ls, Value.int ((nt_SB.getD (nt_si a) []).getD (nI q).toNatClampNeg 0) :: st, M) else none) = some c' := hs
  obtain ⟨_, e⟩ := nt_if_some hs
  rw [nI_clamp hq] at e
  cases e
  exact k
theorem me_nle {a b : Int32} (h : a < b) : ¬ b ≤ a := by
  intro c
  have h := Int32.lt_iff_toInt_lt.mp h
  have c := Int32.le_iff_toInt_le.mp c
  omega
theorem me_le {a b : Int32} (h : ¬ a < b) : b ≤ a := by
  apply Int32.le_iff_toInt_le.mpr
  have h : ¬ a.toInt < b.toInt := fun c => h (Int32.lt_iff_toInt_lt.mpr c)
  omega
def lb_sk (f : Nat → Int32) (t : Nat) : Nat → Nat → Nat
  | 0, p => p
  | n + 1, p => @ite _ (p < t ∧ f p = Int32.ofInt 32) instDecidableAnd (lb_sk f t n (p + 1)) p
/-- behind blanks -/
def lb_s (f : Nat → Int32) (t p : Nat) : Nat := lb_sk f t (t - p) p
theorem lb_s0 {f : Nat → Int32} {t p : Nat} (h : ¬ (p < t ∧ f p = Int32.ofInt 32)) : lb_s f t p = p := by
  unfold lb_s
  cases hn : t - p with
  | zero => rfl
  | succ n =>
    unfold lb_sk
    rw [if_neg h]
theorem lb_s1 {f : Nat → Int32} {t p : Nat} (h : p < t ∧ f p = Int32.ofInt 32) : lb_s f t p = lb_s f t (p + 1) := by
  unfold lb_s
  rw [show t - p = t - (p + 1) + 1 from by omega]
  show (if p < t ∧ f p = Int32.ofInt 32 then lb_sk f t (t - (p + 1)) (p + 1) else p) = _
  rw [if_pos h]
theorem lb_s_le {f : Nat → Int32} {t : Nat} : ∀ (n p : Nat), p + n = t → p ≤ lb_s f t p ∧ lb_s f t p ≤ t := by
  intro n
  induction n with
  | zero =>
    intro p h
    rw [lb_s0 (by omega)]
    omega
  | succ n ih =>
    intro p h
    by_cases c : p < t ∧ f p = Int32.ofInt 32
    · rw [lb_s1 c]
      have := ih (p + 1) (by omega)
      omega
    · rw [lb_s0 c]
      omega
theorem lb_s_nb {f : Nat → Int32} {t : Nat} : ∀ (n p : Nat), p + n = t → ¬ (lb_s f t p < t ∧ f (lb_s f t p) = Int32.ofInt 32) := by
  intro n
  induction n with
  | zero =>
    intro p h
    rw [lb_s0 (by omega)]
    omega
  | succ n ih =>
    intro p h
    by_cases c : p < t ∧ f p = Int32.ofInt 32
    · rw [lb_s1 c]
      exact ih (p + 1) (by omega)
    · rw [lb_s0 c]
      exact c
theorem lb_ss {f : Nat → Int32} {t p : Nat} (h : p ≤ t) : lb_s f t (lb_s f t p) = lb_s f t p := lb_s0 (lb_s_nb (t - p) p (by omega))
/-- digits from p on -/
def lb_dn (f : Nat → Int32) (t : Nat) : Nat → Nat → Nat
  | 0, _ => 0
  | n + 1, p => @ite _ (p < t ∧ Int32.ofInt 48 ≤ f p ∧ f p ≤ Int32.ofInt 57) instDecidableAnd (lb_dn f t n (p + 1) + 1) 0
def lb_d (f : Nat → Int32) (t p : Nat) : Nat := lb_dn f t (t - p) p
theorem lb_d0 {f : Nat → Int32} {t p : Nat} (h : ¬ (p < t ∧ Int32.ofInt 48 ≤ f p ∧ f p ≤ Int32.ofInt 57)) : lb_d f t p = 0 := by
  unfold lb_d
  cases hn : t - p with
  | zero => rfl
  | succ n =>
    unfold lb_dn
    rw [if_neg h]
theorem lb_d1 {f : Nat → Int32} {t p : Nat} (h : p < t ∧ Int32.ofInt 48 ≤ f p ∧ f p ≤ Int32.ofInt 57) : lb_d f t p = lb_d f t (p + 1) + 1 := by
  unfold lb_d
  rw [show t - p = t - (p + 1) + 1 from by omega]
  show (if p < t ∧ Int32.ofInt 48 ≤ f p ∧ f p ≤ Int32.ofInt 57 then lb_dn f t (t - (p + 1)) (p + 1) + 1 else 0) = _
  rw [if_pos h]
theorem lb_d_le {f : Nat → Int32} {t : Nat} : ∀ (n p : Nat), p + n = t → p + lb_d f t p ≤ t := by
  intro n
  induction n with
  | zero =>
    intro p h
    rw [lb_d0 (by omega)]
    omega
  | succ n ih =>
    intro p h
    by_cases c : p < t ∧ Int32.ofInt 48 ≤ f p ∧ f p ≤ Int32.ofInt 57
    · rw [lb_d1 c]
      have := ih (p + 1) (by omega)
      omega
    · rw [lb_d0 c]
      omega
/-- the sign at p -/
def lb_g (f : Nat → Int32) (t p : Nat) : Int32 := if p < t then f p &&& Int32.ofInt 255 else Int32.ofInt (-1)
/-- a word stands at p -/
def lb_at (f : Nat → Int32) (t : Nat) (L : List Int32) (p : Nat) : Prop := p + L.length ≤ t ∧ (∀ i, i < L.length → f (p + i) = L.getD i 0) ∧ ¬ (p + L.length < t ∧ Int32.ofInt 97 ≤ f (p + L.length) ∧ f (p + L.length) ≤ Int32.ofInt 122)
/-- the rule reader: where things lie -/
def lc_P (M : nt_M) (J0 : Nat → Nat → Int32) (f : Nat → Int32) (t Rd Tp By RR Sp : Nat) : Prop := (nt_R M Rd 0 = some Tp ∧ nt_R M Tp 0 = some By ∧ nt_R M RR 0 = some Rd ∧ nt_R M RR 1 = some Sp) ∧ (Tp ≠ Rd ∧ Tp ≠ RR ∧ Tp ≠ Sp ∧ By ≠ Rd ∧ By ≠ RR ∧ By ≠ Sp ∧ Rd ≠ RR ∧ Rd ≠ Sp ∧ RR ≠ Sp) ∧ J0 Tp 1 = nI t ∧ (∀ j, J0 By j = f j) ∧ t ≤ 400 ∧ nt_l M Sp = 400 ∧ Sp ≠ nt_sp
/-- and what it holds -/
def lc_S (J0 : Nat → Nat → Int32) (Rd RR Sp p : Nat) (fa : Int32) (m : Nat) (s : Nat × (Nat → Int32)) (J : Nat → Nat → Int32) : Prop := J Rd 1 = nI p ∧ J Rd 2 = fa ∧ J RR 2 = nI s.1 ∧ J RR 3 = nI m ∧ (∀ j, j < s.1 → J Sp j = s.2 j) ∧ (∀ a, a ≠ Rd → a ≠ RR → a ≠ Sp → J a = J0 a) ∧ s.1 ≤ 400 ∧ m ≤ 60
theorem lc_t {M : nt_M} {J0 J : Nat → Nat → Int32} {f : Nat → Int32} {t Rd Tp By RR Sp p m : Nat} {fa : Int32} {s : Nat × (Nat → Int32)} (hP : lc_P M J0 f t Rd Tp By RR Sp) (hS : lc_S J0 Rd RR Sp p fa m s J) : J Tp 1 = nI t := by
  rw [hS.2.2.2.2.2.1 Tp hP.2.1.1 hP.2.1.2.1 hP.2.1.2.2.1]
  exact hP.2.2.1
theorem lc_f {M : nt_M} {J0 J : Nat → Nat → Int32} {f : Nat → Int32} {t Rd Tp By RR Sp p m : Nat} {fa : Int32} {s : Nat × (Nat → Int32)} (hP : lc_P M J0 f t Rd Tp By RR Sp) (hS : lc_S J0 Rd RR Sp p fa m s J) (j : Nat) : J By j = f j := by
  rw [hS.2.2.2.2.2.1 By hP.2.1.2.2.2.1 hP.2.1.2.2.2.2.1 hP.2.1.2.2.2.2.2.1]
  exact hP.2.2.2.1 j
theorem lc_Spp {M : nt_M} {J0 J : Nat → Nat → Int32} {f : Nat → Int32} {t Rd Tp By RR Sp p m q : Nat} {fa : Int32} {s : Nat × (Nat → Int32)} (hP : lc_P M J0 f t Rd Tp By RR Sp) (hS : lc_S J0 Rd RR Sp p fa m s J) : lc_S J0 Rd RR Sp q fa m s (nt_u J Rd 1 (nI q)) := by
  obtain ⟨a, b, c, e, g, h, l⟩ := hS
  have n1 := hP.2.1.2.2.2.2.2.2.1
  have n2 := hP.2.1.2.2.2.2.2.2.2.1
  have n3 := hP.2.1.2.2.2.2.2.2.2.2
  exact ⟨me_us, (me_uk (by decide)).trans b, (me_uj (Ne.symm n1)).trans c, (me_uj (Ne.symm n1)).trans e, fun j hj => (me_uj (Ne.symm n2)).trans (g j hj), fun x h1 h2 h3 => (me_uo h1).trans (h x h1 h2 h3), l⟩
theorem lc_Sf {M : nt_M} {J0 J : Nat → Nat → Int32} {f : Nat → Int32} {t Rd Tp By RR Sp p m : Nat} {fa fb : Int32} {s : Nat × (Nat → Int32)} (hP : lc_P M J0 f t Rd Tp By RR Sp) (hS : lc_S J0 Rd RR Sp p fa m s J) : lc_S J0 Rd RR Sp p fb m s (nt_u J Rd 2 fb) := by
  obtain ⟨a, b, c, e, g, h, l⟩ := hS
  have n1 := hP.2.1.2.2.2.2.2.2.1
  have n2 := hP.2.1.2.2.2.2.2.2.2.1
  have n3 := hP.2.1.2.2.2.2.2.2.2.2
  exact ⟨(me_uk (by decide)).trans a, me_us, (me_uj (Ne.symm n1)).trans c, (me_uj (Ne.symm n1)).trans e, fun j hj => (me_uj (Ne.symm n2)).trans (g j hj), fun x h1 h2 h3 => (me_uo h1).trans (h x h1 h2 h3), l⟩
theorem lc_Sm {M : nt_M} {J0 J : Nat → Nat → Int32} {f : Nat → Int32} {t Rd Tp By RR Sp p m q : Nat} {fa : Int32} {s : Nat × (Nat → Int32)} (hP : lc_P M J0 f t Rd Tp By RR Sp) (hS : lc_S J0 Rd RR Sp p fa m s J) (hq : q ≤ 60) : lc_S J0 Rd RR Sp p fa q s (nt_u J RR 3 (nI q)) := by
  obtain ⟨a, b, c, e, g, h, l⟩ := hS
  have n1 := hP.2.1.2.2.2.2.2.2.1
  have n2 := hP.2.1.2.2.2.2.2.2.2.1
  have n3 := hP.2.1.2.2.2.2.2.2.2.2
  exact ⟨(me_uj n1).trans a, (me_uj n1).trans b, (me_uk (by decide)).trans c, me_us, fun j hj => (me_uj (Ne.symm n3)).trans (g j hj), fun x h1 h2 h3 => (me_uo h2).trans (h x h1 h2 h3), l.1, hq⟩
/-- a step more, if there is room -/
def lb_e (s : Nat × (Nat → Int32)) (x : Int32) : Nat × (Nat → Int32) := if s.1 < 400 then (s.1 + 1, fun j => if j = s.1 then x else s.2 j) else s
theorem lc_Se {M : nt_M} {J0 J : Nat → Nat → Int32} {f : Nat → Int32} {t Rd Tp By RR Sp p m : Nat} {fa x : Int32} {s : Nat × (Nat → Int32)} (hP : lc_P M J0 f t Rd Tp By RR Sp) (hS : lc_S J0 Rd RR Sp p fa m s J) (hs : s.1 < 400) : lc_S J0 Rd RR Sp p fa m (lb_e s x) (nt_u (nt_u J Sp s.1 x) RR 2 (nI (s.1 + 1))) := by
  obtain ⟨a, b, c, e, g, h, l⟩ := hS
  have n1 := hP.2.1.2.2.2.2.2.2.1
  have n2 := hP.2.1.2.2.2.2.2.2.2.1
  have n3 := hP.2.1.2.2.2.2.2.2.2.2
  have e1 : lb_e s x = (s.1 + 1, fun j => if j = s.1 then x else s.2 j) := if_pos hs
  rw [e1]
  refine ⟨(me_uj n1).trans ((me_uj n2).trans a), (me_uj n1).trans ((me_uj n2).trans b), me_us, (me_uk (by decide)).trans ((me_uj n3).trans e), fun j hj => (me_uj (Ne.symm n3)).trans ?_, fun x h1 h2 h3 => (me_uo h2).trans ((me_uo h3).trans (h x h1 h2 h3)), by dsimp only; omega, l.2⟩
  dsimp only at hj ⊢
  by_cases c2 : j = s.1
  · rw [if_pos c2, c2, me_us]
  · rw [if_neg c2, me_uk c2]
    exact g j (by omega)
theorem lb_W_all : nt_SB.all (fun l => decide (l.length ≤ 10)) = true := by decide +kernel
theorem lb_W_len {a : Nat} : (lb_W a).length ≤ 10 := by
  unfold lb_W
  rw [List.getD_eq_getElem?_getD]
  cases h : nt_SB[nt_si a]? with
  | none => exact Nat.zero_le _
  | some l =>
    have q := List.all_eq_true.mp lb_W_all l (List.mem_of_getElem? h)
    exact of_decide_eq_true q
theorem lc_sign {X : nt_X} {d t Rd Tp By RR Sp : Nat} {f : Nat → Int32} {M : nt_M} {J0 J : Nat → Nat → Int32} {o : Option Value × nt_M} {p m : Nat} {fa : Int32} {s : Nat × (Nat → Int32)}  (hP : lc_P M J0 f t Rd Tp By RR Sp) (hS : lc_S J0 Rd RR Sp p fa m s J) (hp : p ≤ t) (k : nt_ev X d 37 [.ref Rd] (me_w M J) o) : o = (some (.int (lb_g f t p)), me_w M J) := by
  have k : nt_rn X d 37 (0, [(0, .ref Rd)], [], me_w M J) o := k
  have t4 : t ≤ 400 := hP.2.2.2.2.1
  have k := ly_revb 1 (c' := (1, [(0, .ref Rd)], [.ref Rd], me_w M J)) rfl k
  have k := lz_get (a := Rd) (g := 201) (M := me_w M J) (v := .int (nI p)) rfl (congrArg Value.int (hS.1)) k
  have k := ly_revb 1 (c' := (5, [(0, .ref Rd)], [.ref Rd, .int (nI p)], me_w M J)) rfl k
  have k := lz_get (a := Rd) (g := 200) (M := me_w M J) (v := .ref Tp) rfl (nt_gfR rfl hP.1.1) k
  have k := lz_get (a := Tp) (g := 701) (M := me_w M J) (v := .int (nI t)) rfl (congrArg Value.int (lc_t hP hS)) k
  have k := ly_revb 1 (c' := (if (nI t) ≤ (nI p) then 33 else 14, [(0, .ref Rd)], [], me_w M J)) rfl k
  by_cases h11 : t ≤ p
  · rw [if_pos (show (nI t) ≤ (nI p) from show nI t ≤ nI p from nI_le h11 (by omega))] at k
    have k := ly_revb 1 (c' := (34, [(0, .ref Rd)], [.int (Int32.ofInt (-1))], me_w M J)) rfl k
    have k := lz_ri rfl (by decide) k
    rw [k]
    unfold lb_g
    rw [if_neg (by omega)]
  · rw [if_neg (show ¬ ((nI t) ≤ (nI p)) from show ¬ nI t ≤ nI p from nI_ge (Nat.not_le.mp h11) (by omega))] at k
    have k := ly_revb 1 (c' := (15, [(0, .ref Rd)], [.ref Rd], me_w M J)) rfl k
    have k := lz_get (a := Rd) (g := 200) (M := me_w M J) (v := .ref Tp) rfl (nt_gfR rfl hP.1.1) k
    have k := lz_get (a := Tp) (g := 700) (M := me_w M J) (v := .ref By) rfl (nt_gfR rfl hP.1.2.1) k
    have k := ly_revb 1 (c' := (22, [(0, .ref Rd)], [.ref Rd, .ref By], me_w M J)) rfl k
    have k := lz_get (a := Rd) (g := 201) (M := me_w M J) (v := .int (nI p)) rfl (congrArg Value.int (hS.1)) k
    have k := me_bald (q := p) (v := f p) rfl (rfl) (by omega) (lc_f hP hS p) k
    have k := ly_revb 3 (c' := (34, [(0, .ref Rd)], [.int ((f p) &&& (Int32.ofInt 255))], me_w M J)) rfl k
    have k := lz_ri rfl (by decide) k
    rw [k]
    unfold lb_g
    rw [if_pos (by omega)]
theorem lc_isNext {X : nt_X} {d t Rd Tp By RR Sp : Nat} {f : Nat → Int32} {M : nt_M} {J0 J : Nat → Nat → Int32} {o : Option Value × nt_M} {p m : Nat} {fa : Int32} {s : Nat × (Nat → Int32)} {x : Int32} (hP : lc_P M J0 f t Rd Tp By RR Sp) (hS : lc_S J0 Rd RR Sp p fa m s J) (hp : p ≤ t) (k : nt_ev X d 39 [.ref Rd, .int (x)] (me_w M J) o) : ∃ r, o = (some (.int r), me_w M J) ∧ (r = Int32.ofInt 1 ∧ (p + 1 < t ∧ f (p + 1) = x) ∨ r = Int32.ofInt 0 ∧ ¬ (p + 1 < t ∧ f (p + 1) = x)) := by
  have k : nt_rn X d 39 (0, [(0, .ref Rd), (1, .int (x))], [], me_w M J) o := k
  have t4 : t ≤ 400 := hP.2.2.2.2.1
  have k := ly_revb 1 (c' := (1, [(0, .ref Rd), (1, .int (x))], [.ref Rd], me_w M J)) rfl k
  have k := lz_get (a := Rd) (g := 201) (M := me_w M J) (v := .int (nI p)) rfl (congrArg Value.int (hS.1)) k
  have k := ly_revb 2 (c' := (6, [(0, .ref Rd), (1, .int (x))], [.int ((nI p) + (Int32.ofInt 1))], me_w M J)) rfl k
  rw [show ((nI p) + (Int32.ofInt 1) : Int32) = nI (p + 1) from me_add (k := 1)] at k
  have k := ly_revb 1 (c' := (7, [(0, .ref Rd), (1, .int (x))], [.ref Rd, .int (nI (p + 1))], me_w M J)) rfl k
  have k := lz_get (a := Rd) (g := 200) (M := me_w M J) (v := .ref Tp) rfl (nt_gfR rfl hP.1.1) k
  have k := lz_get (a := Tp) (g := 701) (M := me_w M J) (v := .int (nI t)) rfl (congrArg Value.int (lc_t hP hS)) k
  have k := ly_revb 1 (c' := (if (nI t) ≤ (nI (p + 1)) then 38 else 16, [(0, .ref Rd), (1, .int (x))], [], me_w M J)) rfl k
  by_cases h13 : t ≤ (p + 1)
  · rw [if_pos (show (nI t) ≤ (nI (p + 1)) from show nI t ≤ nI ((p + 1)) from nI_le h13 (by omega))] at k
    have k := ly_revb 1 (c' := (39, [(0, .ref Rd), (1, .int (x))], [.int (Int32.ofInt 0)], me_w M J)) rfl k
    have k := lz_ri rfl (by decide) k
    exact ⟨_, k, Or.inr ⟨rfl, fun c => absurd c.1 (by omega)⟩⟩
  · rw [if_neg (show ¬ ((nI t) ≤ (nI (p + 1))) from show ¬ nI t ≤ nI ((p + 1)) from nI_ge (Nat.not_le.mp h13) (by omega))] at k
    have k := ly_revb 1 (c' := (17, [(0, .ref Rd), (1, .int (x))], [.ref Rd], me_w M J)) rfl k
    have k := lz_get (a := Rd) (g := 200) (M := me_w M J) (v := .ref Tp) rfl (nt_gfR rfl hP.1.1) k
    have k := lz_get (a := Tp) (g := 700) (M := me_w M J) (v := .ref By) rfl (nt_gfR rfl hP.1.2.1) k
    have k := ly_revb 1 (c' := (24, [(0, .ref Rd), (1, .int (x))], [.ref Rd, .ref By], me_w M J)) rfl k
    have k := lz_get (a := Rd) (g := 201) (M := me_w M J) (v := .int (nI p)) rfl (congrArg Value.int (hS.1)) k
    have k := ly_revb 2 (c' := (29, [(0, .ref Rd), (1, .int (x))], [.int ((nI p) + (Int32.ofInt 1)), .ref By], me_w M J)) rfl k
    rw [show ((nI p) + (Int32.ofInt 1) : Int32) = nI (p + 1) from me_add (k := 1)] at k
    have k := me_bald (q := (p + 1)) (v := f ((p + 1))) rfl (rfl) (by omega) (lc_f hP hS ((p + 1))) k
    have k := ly_revb 2 (c' := (if (f ((p + 1))) = x then 34 else 38, [(0, .ref Rd), (1, .int (x))], [], me_w M J)) rfl k
    by_cases h31 : (f ((p + 1))) = x
    · rw [if_pos (show (f ((p + 1))) = x from h31)] at k
      have k := ly_revb 2 (c' := (39, [(0, .ref Rd), (1, .int (x))], [.int (Int32.ofInt 1)], me_w M J)) rfl k
      have k := lz_ri rfl (by decide) k
      exact ⟨_, k, Or.inl ⟨rfl, by omega, h31⟩⟩
    · rw [if_neg (show ¬ ((f ((p + 1))) = x) from h31)] at k
      have k := ly_revb 1 (c' := (39, [(0, .ref Rd), (1, .int (x))], [.int (Int32.ofInt 0)], me_w M J)) rfl k
      have k := lz_ri rfl (by decide) k
      exact ⟨_, k, Or.inr ⟨rfl, fun c => h31 c.2⟩⟩
theorem lc_skl {X : nt_X} {d t Rd Tp By RR Sp : Nat} {f : Nat → Int32} {M : nt_M} {J0 : Nat → Nat → Int32} {o : Option Value × nt_M} {m : Nat} {fa x : Int32} {s : Nat × (Nat → Int32)} (hP : lc_P M J0 f t Rd Tp By RR Sp) : ∀ (c p : Nat) (J : Nat → Nat → Int32), p + c = t → lc_S J0 Rd RR Sp p fa m s J → nt_rn X d 29 (20, [(0, .ref Rd), (1, .int x)], [], me_w M J) o → o = (none, me_w M (nt_u J Rd 1 (nI (lb_s f t p)))) := by
  have t4 : t ≤ 400 := hP.2.2.2.2.1
  intro c
  induction c with
  | zero =>
    intro p J hc hS k
    have k := ly_revb 1 (c' := (21, [(0, .ref Rd), (1, .int (x))], [.ref Rd], me_w M J)) rfl k
    have k := lz_get (a := Rd) (g := 201) (M := me_w M J) (v := .int (nI p)) rfl (congrArg Value.int (hS.1)) k
    have k := ly_revb 1 (c' := (25, [(0, .ref Rd), (1, .int (x))], [.ref Rd, .int (nI p)], me_w M J)) rfl k
    have k := lz_get (a := Rd) (g := 200) (M := me_w M J) (v := .ref Tp) rfl (nt_gfR rfl hP.1.1) k
    have k := lz_get (a := Tp) (g := 701) (M := me_w M J) (v := .int (nI t)) rfl (congrArg Value.int (lc_t hP hS)) k
    have k := ly_revb 1 (c' := (if (nI t) ≤ (nI p) then 64 else 34, [(0, .ref Rd), (1, .int (x))], [], me_w M J)) rfl k
    rw [if_pos (show (nI t) ≤ (nI p) from nI_le (by omega) (by omega))] at k
    have k := lz_rv rfl rfl k
    rw [k, lb_s0 (by omega), me_ui hS.1]
  | succ c ih =>
    intro p J hc hS k
    have k := ly_revb 1 (c' := (21, [(0, .ref Rd), (1, .int (x))], [.ref Rd], me_w M J)) rfl k
    have k := lz_get (a := Rd) (g := 201) (M := me_w M J) (v := .int (nI p)) rfl (congrArg Value.int (hS.1)) k
    have k := ly_revb 1 (c' := (25, [(0, .ref Rd), (1, .int (x))], [.ref Rd, .int (nI p)], me_w M J)) rfl k
    have k := lz_get (a := Rd) (g := 200) (M := me_w M J) (v := .ref Tp) rfl (nt_gfR rfl hP.1.1) k
    have k := lz_get (a := Tp) (g := 701) (M := me_w M J) (v := .int (nI t)) rfl (congrArg Value.int (lc_t hP hS)) k
    have k := ly_revb 1 (c' := (if (nI t) ≤ (nI p) then 64 else 34, [(0, .ref Rd), (1, .int (x))], [], me_w M J)) rfl k
    rw [if_neg (show ¬ ((nI t) ≤ (nI p)) from nI_ge (by omega) (by omega))] at k
    have k := ly_revb 1 (c' := (35, [(0, .ref Rd), (1, .int (x))], [.ref Rd], me_w M J)) rfl k
    have k := lz_get (a := Rd) (g := 200) (M := me_w M J) (v := .ref Tp) rfl (nt_gfR rfl hP.1.1) k
    have k := lz_get (a := Tp) (g := 700) (M := me_w M J) (v := .ref By) rfl (nt_gfR rfl hP.1.2.1) k
    have k := ly_revb 1 (c' := (42, [(0, .ref Rd), (1, .int (x))], [.ref Rd, .ref By], me_w M J)) rfl k
    have k := lz_get (a := Rd) (g := 201) (M := me_w M J) (v := .int (nI p)) rfl (congrArg Value.int (hS.1)) k
    have k := me_bald (q := p) (v := f p) rfl (rfl) (by omega) (lc_f hP hS p) k
    have k := ly_revb 2 (c' := (if (f p) = (Int32.ofInt 32) then 51 else 64, [(0, .ref Rd), (1, .int (x))], [], me_w M J)) rfl k
    by_cases h48 : (f p) = (Int32.ofInt 32)
    · rw [if_pos (show (f p) = (Int32.ofInt 32) from h48)] at k
      have k := ly_revb 2 (c' := (53, [(0, .ref Rd), (1, .int (x))], [.ref Rd, .ref Rd], me_w M J)) rfl k
      have k := lz_get (a := Rd) (g := 201) (M := me_w M J) (v := .int (nI p)) rfl (congrArg Value.int (hS.1)) k
      have k := ly_revb 2 (c' := (58, [(0, .ref Rd), (1, .int (x))], [.int ((nI p) + (Int32.ofInt 1)), .ref Rd], me_w M J)) rfl k
      rw [show ((nI p) + (Int32.ofInt 1) : Int32) = nI (p + 1) from me_add (k := 1)] at k
      have k := me_put rfl (by decide) k
      have k : nt_rn X _ 29 (61, [(0, .ref Rd), (1, .int (x))], [], me_w M (nt_u J Rd 1 (nI (p + 1)))) _ := k
      have k := ly_revb 1 (c' := (20, [(0, .ref Rd), (1, .int (x))], [], me_w M (nt_u J Rd 1 (nI (p + 1))))) rfl k
      have k := ih (p + 1) _ (by omega) (lc_Spp hP hS) k
      rw [k, lb_s1 ⟨by omega, h48⟩, me_uu]
    · rw [if_neg (show ¬ ((f p) = (Int32.ofInt 32)) from h48)] at k
      have k := lz_rv rfl rfl k
      rw [k, lb_s0 (by intro c; exact h48 c.2), me_ui hS.1]
theorem lc_skip {X : nt_X} {d t Rd Tp By RR Sp : Nat} {f : Nat → Int32} {M : nt_M} {J0 J : Nat → Nat → Int32} {o : Option Value × nt_M} {p m : Nat} {fa : Int32} {s : Nat × (Nat → Int32)} {b : Nat} (hP : lc_P M J0 f t Rd Tp By RR Sp) (hS : lc_S J0 Rd RR Sp p fa m s J) (hp : p ≤ t) (hb : b ≤ 400) (k : nt_ev X d 29 [.ref Rd, .int (nI b)] (me_w M J) o) : o = (none, me_w M (nt_u J Rd 1 (nI (lb_s f t (min (p + b) t))))) := by
  have k : nt_rn X d 29 (0, [(0, .ref Rd), (1, .int (nI b))], [], me_w M J) o := k
  have t4 : t ≤ 400 := hP.2.2.2.2.1
  have k := ly_revb 2 (c' := (2, [(0, .ref Rd), (1, .int (nI b))], [.ref Rd, .ref Rd], me_w M J)) rfl k
  have k := lz_get (a := Rd) (g := 201) (M := me_w M J) (v := .int (nI p)) rfl (congrArg Value.int (hS.1)) k
  have k := ly_revb 2 (c' := (7, [(0, .ref Rd), (1, .int (nI b))], [.int ((nI p) + (nI b)), .ref Rd], me_w M J)) rfl k
  rw [show ((nI p) + (nI b) : Int32) = nI (p + b) from me_addn] at k
  have k := ly_revb 1 (c' := (8, [(0, .ref Rd), (1, .int (nI b))], [.ref Rd, .int (nI (p + b)), .ref Rd], me_w M J)) rfl k
  have k := lz_get (a := Rd) (g := 200) (M := me_w M J) (v := .ref Tp) rfl (nt_gfR rfl hP.1.1) k
  have k := lz_get (a := Tp) (g := 701) (M := me_w M J) (v := .int (nI t)) rfl (congrArg Value.int (lc_t hP hS)) k
  have k := me_min (a := (p + b)) (b := t) (by omega) (by omega) rfl k
  have k := me_put rfl (by decide) k
  have k : nt_rn X _ 29 (20, [(0, .ref Rd), (1, .int (nI b))], [], me_w M (nt_u J Rd 1 (nI (min ((p + b)) t)))) _ := k
  have k := lc_skl hP (t - min (p + b) t) (min (p + b) t) _ (by omega) (lc_Spp hP hS) k
  rw [k, me_uu]
theorem lc_dgl {X : nt_X} {d t Rd Tp By RR Sp : Nat} {f : Nat → Int32} {M : nt_M} {J0 J : Nat → Nat → Int32} {o : Option Value × nt_M} {p m : Nat} {fa : Int32} {s : Nat × (Nat → Int32)} (hP : lc_P M J0 f t Rd Tp By RR Sp) (hS : lc_S J0 Rd RR Sp p fa m s J) (hp : p ≤ t) : ∀ (c i : Nat), p ≤ i → i + c = t → nt_rn X d 33 (5, [(1, .int (nI i)), (0, .ref Rd)], [], me_w M J) o → o = (some (.int (nI (i + lb_d f t i - p))), me_w M J) := by
  have t4 : t ≤ 400 := hP.2.2.2.2.1
  intro c
  induction c with
  | zero =>
    intro i hi hc k
    have k := ly_revb 2 (c' := (7, [(1, .int (nI i)), (0, .ref Rd)], [.ref Rd, .int (nI i)], me_w M J)) rfl k
    have k := lz_get (a := Rd) (g := 200) (M := me_w M J) (v := .ref Tp) rfl (nt_gfR rfl hP.1.1) k
    have k := lz_get (a := Tp) (g := 701) (M := me_w M J) (v := .int (nI t)) rfl (congrArg Value.int (lc_t hP hS)) k
    have k := ly_revb 1 (c' := (if (nI t) ≤ (nI i) then 50 else 16, [(1, .int (nI i)), (0, .ref Rd)], [], me_w M J)) rfl k
    rw [if_pos (show (nI t) ≤ (nI i) from nI_le (by omega) (by omega))] at k
    have k := ly_revb 2 (c' := (52, [(1, .int (nI i)), (0, .ref Rd)], [.ref Rd, .int (nI i)], me_w M J)) rfl k
    have k := lz_get (a := Rd) (g := 201) (M := me_w M J) (v := .int (nI p)) rfl (congrArg Value.int (hS.1)) k
    have k := ly_revb 1 (c' := (56, [(1, .int (nI i)), (0, .ref Rd)], [.int ((nI i) - (nI p))], me_w M J)) rfl k
    rw [show ((nI i) - (nI p) : Int32) = nI (i - p) from me_subn (by omega)] at k
    have k := lz_ri rfl (by decide) k
    rw [k, lb_d0 (by omega)]
    rfl
  | succ c ih =>
    intro i hi hc k
    have k := ly_revb 2 (c' := (7, [(1, .int (nI i)), (0, .ref Rd)], [.ref Rd, .int (nI i)], me_w M J)) rfl k
    have k := lz_get (a := Rd) (g := 200) (M := me_w M J) (v := .ref Tp) rfl (nt_gfR rfl hP.1.1) k
    have k := lz_get (a := Tp) (g := 701) (M := me_w M J) (v := .int (nI t)) rfl (congrArg Value.int (lc_t hP hS)) k
    have k := ly_revb 1 (c' := (if (nI t) ≤ (nI i) then 50 else 16, [(1, .int (nI i)), (0, .ref Rd)], [], me_w M J)) rfl k
    rw [if_neg (show ¬ ((nI t) ≤ (nI i)) from nI_ge (by omega) (by omega))] at k
    have k := ly_revb 1 (c' := (17, [(1, .int (nI i)), (0, .ref Rd)], [.ref Rd], me_w M J)) rfl k
    have k := lz_get (a := Rd) (g := 200) (M := me_w M J) (v := .ref Tp) rfl (nt_gfR rfl hP.1.1) k
    have k := lz_get (a := Tp) (g := 700) (M := me_w M J) (v := .ref By) rfl (nt_gfR rfl hP.1.2.1) k
    have k := ly_revb 1 (c' := (24, [(1, .int (nI i)), (0, .ref Rd)], [.int (nI i), .ref By], me_w M J)) rfl k
    have k := me_bald (q := i) (v := f i) rfl (rfl) (by omega) (lc_f hP hS i) k
    have k := ly_revb 2 (c' := (if (f i) < (Int32.ofInt 48) then 50 else 30, [(1, .int (nI i)), (0, .ref Rd)], [], me_w M J)) rfl k
    by_cases h27 : (f i) < (Int32.ofInt 48)
    · rw [if_pos (show (f i) < (Int32.ofInt 48) from h27)] at k
      have k := ly_revb 2 (c' := (52, [(1, .int (nI i)), (0, .ref Rd)], [.ref Rd, .int (nI i)], me_w M J)) rfl k
      have k := lz_get (a := Rd) (g := 201) (M := me_w M J) (v := .int (nI p)) rfl (congrArg Value.int (hS.1)) k
      have k := ly_revb 1 (c' := (56, [(1, .int (nI i)), (0, .ref Rd)], [.int ((nI i) - (nI p))], me_w M J)) rfl k
      rw [show ((nI i) - (nI p) : Int32) = nI (i - p) from me_subn (by omega)] at k
      have k := lz_ri rfl (by decide) k
      rw [k, lb_d0 (fun c => absurd c.2.1 (me_nle h27))]
      rfl
    · rw [if_neg (show ¬ ((f i) < (Int32.ofInt 48)) from h27)] at k
      have k := ly_revb 1 (c' := (31, [(1, .int (nI i)), (0, .ref Rd)], [.ref Rd], me_w M J)) rfl k
      have k := lz_get (a := Rd) (g := 200) (M := me_w M J) (v := .ref Tp) rfl (nt_gfR rfl hP.1.1) k
      have k := lz_get (a := Tp) (g := 700) (M := me_w M J) (v := .ref By) rfl (nt_gfR rfl hP.1.2.1) k
      have k := ly_revb 1 (c' := (38, [(1, .int (nI i)), (0, .ref Rd)], [.int (nI i), .ref By], me_w M J)) rfl k
      have k := me_bald (q := i) (v := f i) rfl (rfl) (by omega) (lc_f hP hS i) k
      have k := ly_revb 2 (c' := (if (Int32.ofInt 57) < (f i) then 50 else 44, [(1, .int (nI i)), (0, .ref Rd)], [], me_w M J)) rfl k
      by_cases h41 : (Int32.ofInt 57) < (f i)
      · rw [if_pos (show (Int32.ofInt 57) < (f i) from h41)] at k
        have k := ly_revb 2 (c' := (52, [(1, .int (nI i)), (0, .ref Rd)], [.ref Rd, .int (nI i)], me_w M J)) rfl k
        have k := lz_get (a := Rd) (g := 201) (M := me_w M J) (v := .int (nI p)) rfl (congrArg Value.int (hS.1)) k
        have k := ly_revb 1 (c' := (56, [(1, .int (nI i)), (0, .ref Rd)], [.int ((nI i) - (nI p))], me_w M J)) rfl k
        rw [show ((nI i) - (nI p) : Int32) = nI (i - p) from me_subn (by omega)] at k
        have k := lz_ri rfl (by decide) k
        rw [k, lb_d0 (fun c => absurd c.2.2 (me_nle h41))]
        rfl
      · rw [if_neg (show ¬ ((Int32.ofInt 57) < (f i)) from h41)] at k
        have k := ly_revb 1 (c' := (47, [(1, .int ((nI i) + Int32.ofInt 1)), (0, .ref Rd)], [], me_w M J)) rfl k
        rw [show ((nI i) + Int32.ofInt 1 : Int32) = nI (i + 1) from me_add (k := 1)] at k
        have k := ly_revb 1 (c' := (5, [(1, .int (nI (i + 1))), (0, .ref Rd)], [], me_w M J)) rfl k
        have k := ih (i + 1) (by omega) (by omega) k
        rw [k, lb_d1 ⟨by omega, me_le h27, me_le h41⟩, show i + 1 + lb_d f t (i + 1) - p = i + (lb_d f t (i + 1) + 1) - p from by omega]
theorem lc_digits {X : nt_X} {d t Rd Tp By RR Sp : Nat} {f : Nat → Int32} {M : nt_M} {J0 J : Nat → Nat → Int32} {o : Option Value × nt_M} {p m : Nat} {fa : Int32} {s : Nat × (Nat → Int32)}  (hP : lc_P M J0 f t Rd Tp By RR Sp) (hS : lc_S J0 Rd RR Sp p fa m s J) (hp : p ≤ t) (k : nt_ev X d 33 [.ref Rd] (me_w M J) o) : o = (some (.int (nI (lb_d f t p))), me_w M J) := by
  have k : nt_rn X d 33 (0, [(0, .ref Rd)], [], me_w M J) o := k
  have t4 : t ≤ 400 := hP.2.2.2.2.1
  have k := ly_revb 1 (c' := (1, [(0, .ref Rd)], [.ref Rd], me_w M J)) rfl k
  have k := lz_get (a := Rd) (g := 201) (M := me_w M J) (v := .int (nI p)) rfl (congrArg Value.int (hS.1)) k
  have k := ly_revb 1 (c' := (5, [(1, .int (nI p)), (0, .ref Rd)], [], me_w M J)) rfl k
  have k := lc_dgl hP hS hp (t - p) p (Nat.le_refl _) (by omega) k
  rw [k, show p + lb_d f t p - p = lb_d f t p from by omega]
theorem lc_takes {X : nt_X} {d t Rd Tp By RR Sp : Nat} {f : Nat → Int32} {M : nt_M} {J0 J : Nat → Nat → Int32} {o : Option Value × nt_M} {p m : Nat} {fa : Int32} {s : Nat × (Nat → Int32)} {x : Int32} (hP : lc_P M J0 f t Rd Tp By RR Sp) (hS : lc_S J0 Rd RR Sp p fa m s J) (hp : p ≤ t) (k : nt_ev X d 36 [.ref Rd, .int (x)] (me_w M J) o) : lb_g f t p = x ∧ o = (some (.int (Int32.ofInt 1)), me_w M (nt_u J Rd 1 (nI (lb_s f t (min (p + 1) t))))) ∨ ¬ lb_g f t p = x ∧ o = (some (.int (Int32.ofInt 0)), me_w M J) := by
  have k : nt_rn X d 36 (0, [(0, .ref Rd), (1, .int (x))], [], me_w M J) o := k
  have t4 : t ≤ 400 := hP.2.2.2.2.1
  have k := ly_revb 1 (c' := (1, [(0, .ref Rd), (1, .int (x))], [.ref Rd], me_w M J)) rfl k
  obtain ⟨d1, o1, ed, kc, k⟩ := lz_c (g := 37) (q := 1) (vs := [.ref Rd]) (rest := []) rfl rfl (by decide) (Or.inr (Or.inl ⟨_, rfl, rfl⟩)) rfl k
  have e := lc_sign hP hS hp kc
  subst e
  have k : nt_rn X _ 36 (4, [(0, .ref Rd), (1, .int (x))], [.int (lb_g f t p)], me_w M J) _ := k
  have k := ly_revb 2 (c' := (if (lb_g f t p) = x then 10 else 8, [(0, .ref Rd), (1, .int (x))], [], me_w M J)) rfl k
  by_cases h5 : (lb_g f t p) = x
  · rw [if_pos (show (lb_g f t p) = x from h5)] at k
    have k := ly_revb 2 (c' := (12, [(0, .ref Rd), (1, .int (x))], [.int (Int32.ofInt 1), .ref Rd], me_w M J)) rfl k
    obtain ⟨d1, o1, ed, kc, k⟩ := lz_c (g := 29) (q := 1) (vs := [.ref Rd, .int (Int32.ofInt 1)]) (rest := []) rfl rfl (by decide) (Or.inr (Or.inl ⟨_, rfl, rfl⟩)) rfl k
    have e := lc_skip (b := 1) hP hS hp (by omega) kc
    subst e
    have k : nt_rn X _ 36 (15, [(0, .ref Rd), (1, .int (x))], [], me_w M (nt_u J Rd 1 (nI (lb_s f t (min (p + 1) t))))) _ := k
    have k := ly_revb 1 (c' := (16, [(0, .ref Rd), (1, .int (x))], [.int (Int32.ofInt 1)], me_w M (nt_u J Rd 1 (nI (lb_s f t (min (p + 1) t)))))) rfl k
    have k := lz_ri rfl (by decide) k
    exact Or.inl ⟨h5, k⟩
  · rw [if_neg (show ¬ ((lb_g f t p) = x) from h5)] at k
    have k := ly_revb 1 (c' := (9, [(0, .ref Rd), (1, .int (x))], [.int (Int32.ofInt 0)], me_w M J)) rfl k
    have k := lz_ri rfl (by decide) k
    exact Or.inr ⟨h5, k⟩
theorem lc_fail {X : nt_X} {d t Rd Tp By RR Sp : Nat} {f : Nat → Int32} {M : nt_M} {J0 J : Nat → Nat → Int32} {o : Option Value × nt_M} {p m : Nat} {fa : Int32} {s : Nat × (Nat → Int32)} {x : Int32} (hP : lc_P M J0 f t Rd Tp By RR Sp) (hS : lc_S J0 Rd RR Sp p fa m s J) (hp : p ≤ t) (k : nt_ev X d 31 [.ref Rd, .int (x)] (me_w M J) o) : fa = 0 ∧ o = (none, me_w M (nt_u (nt_u J Rd 2 (Int32.ofInt 1 + Int32.ofInt 8 * nI p + x)) Rd 1 (nI t))) ∨ ¬ fa = 0 ∧ o = (none, me_w M (nt_u J Rd 1 (nI t))) := by
  have k : nt_rn X d 31 (0, [(0, .ref Rd), (1, .int (x))], [], me_w M J) o := k
  have t4 : t ≤ 400 := hP.2.2.2.2.1
  have k := ly_revb 1 (c' := (1, [(0, .ref Rd), (1, .int (x))], [.ref Rd], me_w M J)) rfl k
  have k := lz_get (a := Rd) (g := 202) (M := me_w M J) (v := .int (fa)) rfl (congrArg Value.int (hS.2.1)) k
  have k := ly_revb 1 (c' := (if fa = 0 then 7 else 22, [(0, .ref Rd), (1, .int (x))], [], me_w M J)) rfl k
  by_cases h4 : fa = 0
  · rw [if_pos (show fa = 0 from h4)] at k
    have k := ly_revb 4 (c' := (12, [(0, .ref Rd), (1, .int (x))], [.ref Rd, .int (Int32.ofInt 8), .int (Int32.ofInt 1), .ref Rd], me_w M J)) rfl k
    have k := lz_get (a := Rd) (g := 201) (M := me_w M J) (v := .int (nI p)) rfl (congrArg Value.int (hS.1)) k
    have k := ly_revb 4 (c' := (19, [(0, .ref Rd), (1, .int (x))], [.int (((Int32.ofInt 1) + ((Int32.ofInt 8) * (nI p))) + x), .ref Rd], me_w M J)) rfl k
    have k := me_put rfl (by decide) k
    have k : nt_rn X _ 31 (22, [(0, .ref Rd), (1, .int (x))], [], me_w M (nt_u J Rd 2 (((Int32.ofInt 1) + ((Int32.ofInt 8) * (nI p))) + x))) _ := k
    have k := ly_revb 2 (c' := (24, [(0, .ref Rd), (1, .int (x))], [.ref Rd, .ref Rd], me_w M (nt_u J Rd 2 (((Int32.ofInt 1) + ((Int32.ofInt 8) * (nI p))) + x)))) rfl k
    have k := lz_get (a := Rd) (g := 200) (M := me_w M (nt_u J Rd 2 (((Int32.ofInt 1) + ((Int32.ofInt 8) * (nI p))) + x))) (v := .ref Tp) rfl (nt_gfR rfl hP.1.1) k
    have k := lz_get (a := Tp) (g := 701) (M := me_w M (nt_u J Rd 2 (((Int32.ofInt 1) + ((Int32.ofInt 8) * (nI p))) + x))) (v := .int (nI t)) rfl (congrArg Value.int ((me_uj (hP.2.1.1)).trans (lc_t hP hS))) k
    have k := me_put rfl (by decide) k
    have k : nt_rn X _ 31 (33, [(0, .ref Rd), (1, .int (x))], [], me_w M (nt_u (nt_u J Rd 2 (((Int32.ofInt 1) + ((Int32.ofInt 8) * (nI p))) + x)) Rd 1 (nI t))) _ := k
    have k := lz_rv rfl rfl k
    exact Or.inl ⟨h4, k⟩
  · rw [if_neg (show ¬ (fa = 0) from h4)] at k
    have k := ly_revb 2 (c' := (24, [(0, .ref Rd), (1, .int (x))], [.ref Rd, .ref Rd], me_w M J)) rfl k
    have k := lz_get (a := Rd) (g := 200) (M := me_w M J) (v := .ref Tp) rfl (nt_gfR rfl hP.1.1) k
    have k := lz_get (a := Tp) (g := 701) (M := me_w M J) (v := .int (nI t)) rfl (congrArg Value.int (lc_t hP hS)) k
    have k := me_put rfl (by decide) k
    have k : nt_rn X _ 31 (33, [(0, .ref Rd), (1, .int (x))], [], me_w M (nt_u J Rd 1 (nI t))) _ := k
    have k := lz_rv rfl rfl k
    exact Or.inr ⟨h4, k⟩
theorem lc_atl {X : nt_X} {d t Rd Tp By RR Sp a : Nat} {f : Nat → Int32} {M : nt_M} {J0 J : Nat → Nat → Int32} {o : Option Value × nt_M} {p m : Nat} {fa : Int32} {s : Nat × (Nat → Int32)} (hP : lc_P M J0 f t Rd Tp By RR Sp) (hS : lc_S J0 Rd RR Sp p fa m s J) (hl : p + (lb_W a).length ≤ t) : ∀ (c i : Nat), i + c = (lb_W a).length → (∀ j, j < i → f (p + j) = (lb_W a).getD j 0) → nt_rn X d 30 (28, [(3, .int (nI (p + i))), (2, .int (nI (p + (lb_W a).length))), (0, .ref Rd), (1, .ref a)], [], me_w M J) o → ∃ r, o = (some (.int r), me_w M J) ∧ (r = Int32.ofInt 1 ∧ lb_at f t (lb_W a) p ∨ r = Int32.ofInt 0 ∧ ¬ lb_at f t (lb_W a) p) := by
  have t4 : t ≤ 400 := hP.2.2.2.2.1
  intro c
  induction c with
  | zero =>
    intro i hc hj k
    have k := ly_revb 3 (c' := (if (nI (p + (lb_W a).length)) ≤ (nI (p + i)) then 63 else 33, [(3, .int (nI (p + i))), (2, .int (nI (p + (lb_W a).length))), (0, .ref Rd), (1, .ref a)], [], me_w M J)) rfl k
    rw [if_pos (show (nI (p + (lb_W a).length)) ≤ (nI (p + i)) from nI_le (by omega) (by omega))] at k
    have k := ly_revb 2 (c' := (65, [(3, .int (nI (p + i))), (2, .int (nI (p + (lb_W a).length))), (0, .ref Rd), (1, .ref a)], [.ref Rd, .int (nI (p + (lb_W a).length))], me_w M J)) rfl k
    have k := lz_get (a := Rd) (g := 200) (M := me_w M J) (v := .ref Tp) rfl (nt_gfR rfl hP.1.1) k
    have k := lz_get (a := Tp) (g := 701) (M := me_w M J) (v := .int (nI t)) rfl (congrArg Value.int (lc_t hP hS)) k
    have k := ly_revb 1 (c' := (if (nI (p + (lb_W a).length)) = (nI t) then 102 else 74, [(3, .int (nI (p + i))), (2, .int (nI (p + (lb_W a).length))), (0, .ref Rd), (1, .ref a)], [], me_w M J)) rfl k
    by_cases h71 : (p + (lb_W a).length) = t
    · rw [if_pos (show (nI (p + (lb_W a).length)) = (nI t) from show nI ((p + (lb_W a).length)) = nI t from congrArg nI h71)] at k
      have k := ly_revb 2 (c' := (107, [(3, .int (nI (p + i))), (2, .int (nI (p + (lb_W a).length))), (0, .ref Rd), (1, .ref a)], [.int (Int32.ofInt 1)], me_w M J)) rfl k
      have k := lz_ri rfl (by decide) k
      exact ⟨_, k, Or.inl ⟨rfl, hl, fun j h => hj j (by omega), fun c => absurd c.1 (by omega)⟩⟩
    · rw [if_neg (show ¬ ((nI (p + (lb_W a).length)) = (nI t)) from show ¬ nI ((p + (lb_W a).length)) = nI t from me_ne h71 (by omega) (by omega))] at k
      have k := ly_revb 1 (c' := (75, [(3, .int (nI (p + i))), (2, .int (nI (p + (lb_W a).length))), (0, .ref Rd), (1, .ref a)], [.ref Rd], me_w M J)) rfl k
      have k := lz_get (a := Rd) (g := 200) (M := me_w M J) (v := .ref Tp) rfl (nt_gfR rfl hP.1.1) k
      have k := lz_get (a := Tp) (g := 700) (M := me_w M J) (v := .ref By) rfl (nt_gfR rfl hP.1.2.1) k
      have k := ly_revb 1 (c' := (82, [(3, .int (nI (p + i))), (2, .int (nI (p + (lb_W a).length))), (0, .ref Rd), (1, .ref a)], [.int (nI (p + (lb_W a).length)), .ref By], me_w M J)) rfl k
      have k := me_bald (q := (p + (lb_W a).length)) (v := f ((p + (lb_W a).length))) rfl (rfl) (by omega) (lc_f hP hS ((p + (lb_W a).length))) k
      have k := ly_revb 2 (c' := (if (f ((p + (lb_W a).length))) < (Int32.ofInt 97) then 102 else 88, [(3, .int (nI (p + i))), (2, .int (nI (p + (lb_W a).length))), (0, .ref Rd), (1, .ref a)], [], me_w M J)) rfl k
      by_cases h85 : (f ((p + (lb_W a).length))) < (Int32.ofInt 97)
      · rw [if_pos (show (f ((p + (lb_W a).length))) < (Int32.ofInt 97) from h85)] at k
        have k := ly_revb 2 (c' := (107, [(3, .int (nI (p + i))), (2, .int (nI (p + (lb_W a).length))), (0, .ref Rd), (1, .ref a)], [.int (Int32.ofInt 1)], me_w M J)) rfl k
        have k := lz_ri rfl (by decide) k
        exact ⟨_, k, Or.inl ⟨rfl, hl, fun j h => hj j (by omega), fun c => absurd c.2.1 (me_nle h85)⟩⟩
      · rw [if_neg (show ¬ ((f ((p + (lb_W a).length))) < (Int32.ofInt 97)) from h85)] at k
        have k := ly_revb 1 (c' := (89, [(3, .int (nI (p + i))), (2, .int (nI (p + (lb_W a).length))), (0, .ref Rd), (1, .ref a)], [.ref Rd], me_w M J)) rfl k
        have k := lz_get (a := Rd) (g := 200) (M := me_w M J) (v := .ref Tp) rfl (nt_gfR rfl hP.1.1) k
        have k := lz_get (a := Tp) (g := 700) (M := me_w M J) (v := .ref By) rfl (nt_gfR rfl hP.1.2.1) k
        have k := ly_revb 1 (c' := (96, [(3, .int (nI (p + i))), (2, .int (nI (p + (lb_W a).length))), (0, .ref Rd), (1, .ref a)], [.int (nI (p + (lb_W a).length)), .ref By], me_w M J)) rfl k
        have k := me_bald (q := (p + (lb_W a).length)) (v := f ((p + (lb_W a).length))) rfl (rfl) (by omega) (lc_f hP hS ((p + (lb_W a).length))) k
        have k := ly_revb 2 (c' := (if (f ((p + (lb_W a).length))) ≤ (Int32.ofInt 122) then 106 else 102, [(3, .int (nI (p + i))), (2, .int (nI (p + (lb_W a).length))), (0, .ref Rd), (1, .ref a)], [], me_w M J)) rfl k
        by_cases h99 : (f ((p + (lb_W a).length))) ≤ (Int32.ofInt 122)
        · rw [if_pos (show (f ((p + (lb_W a).length))) ≤ (Int32.ofInt 122) from h99)] at k
          have k := ly_revb 1 (c' := (107, [(3, .int (nI (p + i))), (2, .int (nI (p + (lb_W a).length))), (0, .ref Rd), (1, .ref a)], [.int (Int32.ofInt 0)], me_w M J)) rfl k
          have k := lz_ri rfl (by decide) k
          exact ⟨_, k, Or.inr ⟨rfl, fun c => c.2.2 ⟨by omega, me_le h85, h99⟩⟩⟩
        · rw [if_neg (show ¬ ((f ((p + (lb_W a).length))) ≤ (Int32.ofInt 122)) from h99)] at k
          have k := ly_revb 2 (c' := (107, [(3, .int (nI (p + i))), (2, .int (nI (p + (lb_W a).length))), (0, .ref Rd), (1, .ref a)], [.int (Int32.ofInt 1)], me_w M J)) rfl k
          have k := lz_ri rfl (by decide) k
          exact ⟨_, k, Or.inl ⟨rfl, hl, fun j h => hj j (by omega), fun c => absurd c.2.2 h99⟩⟩
  | succ c ih =>
    intro i hc hj k
    have k := ly_revb 3 (c' := (if (nI (p + (lb_W a).length)) ≤ (nI (p + i)) then 63 else 33, [(3, .int (nI (p + i))), (2, .int (nI (p + (lb_W a).length))), (0, .ref Rd), (1, .ref a)], [], me_w M J)) rfl k
    rw [if_neg (show ¬ ((nI (p + (lb_W a).length)) ≤ (nI (p + i))) from nI_ge (by omega) (by omega))] at k
    have k := ly_revb 1 (c' := (34, [(3, .int (nI (p + i))), (2, .int (nI (p + (lb_W a).length))), (0, .ref Rd), (1, .ref a)], [.ref Rd], me_w M J)) rfl k
    have k := lz_get (a := Rd) (g := 200) (M := me_w M J) (v := .ref Tp) rfl (nt_gfR rfl hP.1.1) k
    have k := lz_get (a := Tp) (g := 700) (M := me_w M J) (v := .ref By) rfl (nt_gfR rfl hP.1.2.1) k
    have k := ly_revb 1 (c' := (41, [(3, .int (nI (p + i))), (2, .int (nI (p + (lb_W a).length))), (0, .ref Rd), (1, .ref a)], [.int (nI (p + i)), .ref By], me_w M J)) rfl k
    have k := me_bald (q := (p + i)) (v := f ((p + i))) rfl (rfl) (by omega) (lc_f hP hS ((p + i))) k
    have k := ly_revb 3 (c' := (45, [(3, .int (nI (p + i))), (2, .int (nI (p + (lb_W a).length))), (0, .ref Rd), (1, .ref a)], [.ref Rd, .int (nI (p + i)), .ref a, .int (f ((p + i)))], me_w M J)) rfl k
    have k := lz_get (a := Rd) (g := 201) (M := me_w M J) (v := .int (nI p)) rfl (congrArg Value.int (hS.1)) k
    have k := ly_revb 1 (c' := (49, [(3, .int (nI (p + i))), (2, .int (nI (p + (lb_W a).length))), (0, .ref Rd), (1, .ref a)], [.int ((nI (p + i)) - (nI p)), .ref a, .int (f ((p + i)))], me_w M J)) rfl k
    rw [show ((nI (p + i)) - (nI p) : Int32) = nI i from (me_subn (by omega)).trans (congrArg nI (by omega))] at k
    have k := me_char (q := i) rfl (by omega) k
    have k := ly_revb 1 (c' := (if (f ((p + i))) = ((lb_W a).getD i 0) then 57 else 55, [(3, .int (nI (p + i))), (2, .int (nI (p + (lb_W a).length))), (0, .ref Rd), (1, .ref a)], [], me_w M J)) rfl k
    by_cases h52 : f (p + i) = (lb_W a).getD i 0
    · rw [if_pos (show (f ((p + i))) = ((lb_W a).getD i 0) from h52)] at k
      have k := ly_revb 1 (c' := (60, [(3, .int ((nI (p + i)) + Int32.ofInt 1)), (2, .int (nI (p + (lb_W a).length))), (0, .ref Rd), (1, .ref a)], [], me_w M J)) rfl k
      rw [show ((nI (p + i)) + Int32.ofInt 1 : Int32) = nI (p + (i + 1)) from me_add (k := 1)] at k
      have k := ly_revb 1 (c' := (28, [(3, .int (nI (p + (i + 1)))), (2, .int (nI (p + (lb_W a).length))), (0, .ref Rd), (1, .ref a)], [], me_w M J)) rfl k
      refine ih (i + 1) (by omega) (fun j h => ?_) k
      by_cases c2 : j = i
      · rw [c2]; exact h52
      · exact hj j (by omega)
    · rw [if_neg (show ¬ ((f ((p + i))) = ((lb_W a).getD i 0)) from h52)] at k
      have k := ly_revb 1 (c' := (56, [(3, .int (nI (p + i))), (2, .int (nI (p + (lb_W a).length))), (0, .ref Rd), (1, .ref a)], [.int (Int32.ofInt 0)], me_w M J)) rfl k
      have k := lz_ri rfl (by decide) k
      exact ⟨_, k, Or.inr ⟨rfl, fun c => h52 (c.2.1 i (by omega))⟩⟩
theorem lc_isAt {X : nt_X} {d t Rd Tp By RR Sp : Nat} {f : Nat → Int32} {M : nt_M} {J0 J : Nat → Nat → Int32} {o : Option Value × nt_M} {p m : Nat} {fa : Int32} {s : Nat × (Nat → Int32)} {a : Nat} (hP : lc_P M J0 f t Rd Tp By RR Sp) (hS : lc_S J0 Rd RR Sp p fa m s J) (hp : p ≤ t) (k : nt_ev X d 30 [.ref Rd, .ref a] (me_w M J) o) : ∃ r, o = (some (.int r), me_w M J) ∧ (r = Int32.ofInt 1 ∧ lb_at f t (lb_W a) p ∨ r = Int32.ofInt 0 ∧ ¬ lb_at f t (lb_W a) p) := by
  have k : nt_rn X d 30 (0, [(0, .ref Rd), (1, .ref a)], [], me_w M J) o := k
  have t4 : t ≤ 400 := hP.2.2.2.2.1
  have k := ly_revb 1 (c' := (1, [(0, .ref Rd), (1, .ref a)], [.ref Rd], me_w M J)) rfl k
  have k := lz_get (a := Rd) (g := 201) (M := me_w M J) (v := .int (nI p)) rfl (congrArg Value.int (hS.1)) k
  have k := ly_revb 1 (c' := (5, [(0, .ref Rd), (1, .ref a)], [.ref a, .int (nI p)], me_w M J)) rfl k
  obtain ⟨hw4, k⟩ := me_slen rfl k
  have hw5 := lb_W_len (a := a)
  have k := ly_revb 1 (c' := (9, [(0, .ref Rd), (1, .ref a)], [.int ((nI p) + (nI (lb_W a).length))], me_w M J)) rfl k
  rw [show ((nI p) + (nI (lb_W a).length) : Int32) = nI (p + (lb_W a).length) from me_addn] at k
  have k := ly_revb 3 (c' := (12, [(2, .int (nI (p + (lb_W a).length))), (0, .ref Rd), (1, .ref a)], [.ref Rd, .int (nI (p + (lb_W a).length))], me_w M J)) rfl k
  have k := lz_get (a := Rd) (g := 200) (M := me_w M J) (v := .ref Tp) rfl (nt_gfR rfl hP.1.1) k
  have k := lz_get (a := Tp) (g := 701) (M := me_w M J) (v := .int (nI t)) rfl (congrArg Value.int (lc_t hP hS)) k
  have k := ly_revb 1 (c' := (if (nI (p + (lb_W a).length)) ≤ (nI t) then 23 else 21, [(2, .int (nI (p + (lb_W a).length))), (0, .ref Rd), (1, .ref a)], [], me_w M J)) rfl k
  by_cases h18 : (p + (lb_W a).length) ≤ t
  · rw [if_pos (show (nI (p + (lb_W a).length)) ≤ (nI t) from show nI ((p + (lb_W a).length)) ≤ nI t from nI_le h18 (by omega))] at k
    have k := ly_revb 1 (c' := (24, [(2, .int (nI (p + (lb_W a).length))), (0, .ref Rd), (1, .ref a)], [.ref Rd], me_w M J)) rfl k
    have k := lz_get (a := Rd) (g := 201) (M := me_w M J) (v := .int (nI p)) rfl (congrArg Value.int (hS.1)) k
    have k := ly_revb 1 (c' := (28, [(3, .int (nI p)), (2, .int (nI (p + (lb_W a).length))), (0, .ref Rd), (1, .ref a)], [], me_w M J)) rfl k
    exact lc_atl hP hS h18 (lb_W a).length 0 (by omega) (fun j h => absurd h (by omega)) k
  · rw [if_neg (show ¬ ((nI (p + (lb_W a).length)) ≤ (nI t)) from show ¬ nI ((p + (lb_W a).length)) ≤ nI t from nI_ge (Nat.not_le.mp h18) (by omega))] at k
    have k := ly_revb 1 (c' := (22, [(2, .int (nI (p + (lb_W a).length))), (0, .ref Rd), (1, .ref a)], [.int (Int32.ofInt 0)], me_w M J)) rfl k
    have k := lz_ri rfl (by decide) k
    exact ⟨_, k, Or.inr ⟨rfl, fun c => absurd c.1 h18⟩⟩
theorem lc_takesWord {X : nt_X} {d t Rd Tp By RR Sp : Nat} {f : Nat → Int32} {M : nt_M} {J0 J : Nat → Nat → Int32} {o : Option Value × nt_M} {p m : Nat} {fa : Int32} {s : Nat × (Nat → Int32)} {a : Nat} (hP : lc_P M J0 f t Rd Tp By RR Sp) (hS : lc_S J0 Rd RR Sp p fa m s J) (hp : p ≤ t) (k : nt_ev X d 32 [.ref Rd, .ref a] (me_w M J) o) : lb_at f t (lb_W a) p ∧ o = (some (.int (Int32.ofInt 1)), me_w M (nt_u J Rd 1 (nI (lb_s f t (p + (lb_W a).length))))) ∨ ¬ lb_at f t (lb_W a) p ∧ o = (some (.int (Int32.ofInt 0)), me_w M J) := by
  have k : nt_rn X d 32 (0, [(0, .ref Rd), (1, .ref a)], [], me_w M J) o := k
  have t4 : t ≤ 400 := hP.2.2.2.2.1
  have hw5 := lb_W_len (a := a)
  have k := ly_revb 2 (c' := (2, [(0, .ref Rd), (1, .ref a)], [.ref a, .ref Rd], me_w M J)) rfl k
  obtain ⟨d1, o1, ed, kc, k⟩ := lz_c (g := 30) (q := 1) (vs := [.ref Rd, .ref a]) (rest := []) rfl rfl (by decide) (Or.inr (Or.inl ⟨_, rfl, rfl⟩)) rfl k
  obtain ⟨r, e, hr⟩ := lc_isAt hP hS hp kc
  subst e
  have k : nt_rn X _ 32 (5, [(0, .ref Rd), (1, .ref a)], [.int (r)], me_w M J) _ := k
  have k := ly_revb 1 (c' := (if r = 0 then 8 else 10, [(0, .ref Rd), (1, .ref a)], [], me_w M J)) rfl k
  by_cases h5 : r = 0
  · rw [if_pos (show r = 0 from h5)] at k
    have k := ly_revb 1 (c' := (9, [(0, .ref Rd), (1, .ref a)], [.int (Int32.ofInt 0)], me_w M J)) rfl k
    have k := lz_ri rfl (by decide) k
    rcases hr with ⟨e, hr⟩ | ⟨e, hr⟩
    · exact absurd (e.symm.trans h5) (by decide)
    · exact Or.inr ⟨hr, k⟩
  · rw [if_neg (show ¬ (r = 0) from h5)] at k
    have k := ly_revb 2 (c' := (12, [(0, .ref Rd), (1, .ref a)], [.ref a, .ref Rd], me_w M J)) rfl k
    obtain ⟨hw4, k⟩ := me_slen rfl k
    obtain ⟨d1, o1, ed, kc, k⟩ := lz_c (g := 29) (q := 1) (vs := [.ref Rd, .int (nI (lb_W a).length)]) (rest := []) rfl rfl (by decide) (Or.inr (Or.inl ⟨_, rfl, rfl⟩)) rfl k
    have e := lc_skip (b := (lb_W a).length) hP hS hp (by omega) kc
    subst e
    have k : nt_rn X _ 32 (18, [(0, .ref Rd), (1, .ref a)], [], me_w M (nt_u J Rd 1 (nI (lb_s f t (min (p + (lb_W a).length) t))))) _ := k
    have k := ly_revb 1 (c' := (19, [(0, .ref Rd), (1, .ref a)], [.int (Int32.ofInt 1)], me_w M (nt_u J Rd 1 (nI (lb_s f t (min (p + (lb_W a).length) t)))))) rfl k
    have k := lz_ri rfl (by decide) k
    rcases hr with ⟨e, hr⟩ | ⟨e, hr⟩
    · rw [Nat.min_eq_left hr.1] at k
      exact Or.inl ⟨hr, k⟩
    · exact absurd e h5
theorem lc_nextClause {X : nt_X} {d t Rd Tp By RR Sp : Nat} {f : Nat → Int32} {M : nt_M} {J0 J : Nat → Nat → Int32} {o : Option Value × nt_M} {p m : Nat} {fa : Int32} {s : Nat × (Nat → Int32)}  (hP : lc_P M J0 f t Rd Tp By RR Sp) (hS : lc_S J0 Rd RR Sp p fa m s J) (hp : p ≤ t) (k : nt_ev X d 35 [.ref Rd] (me_w M J) o) : lb_g f t p = Int32.ofInt 59 ∧ o = (some (.int (Int32.ofInt 1)), me_w M (nt_u J Rd 1 (nI (lb_s f t (min (p + 1) t))))) ∨ lb_g f t p = Int32.ofInt (-1) ∧ o = (some (.int (Int32.ofInt 0)), me_w M J) ∨ ¬ lb_g f t p = Int32.ofInt 59 ∧ ¬ lb_g f t p = Int32.ofInt (-1) ∧ fa = 0 ∧ o = (some (.int (Int32.ofInt 0)), me_w M (nt_u (nt_u J Rd 2 (Int32.ofInt 1 + Int32.ofInt 8 * nI p + Int32.ofInt 0)) Rd 1 (nI t))) ∨ ¬ lb_g f t p = Int32.ofInt 59 ∧ ¬ lb_g f t p = Int32.ofInt (-1) ∧ ¬ fa = 0 ∧ o = (some (.int (Int32.ofInt 0)), me_w M (nt_u J Rd 1 (nI t))) := by
  have k : nt_rn X d 35 (0, [(0, .ref Rd)], [], me_w M J) o := k
  have t4 : t ≤ 400 := hP.2.2.2.2.1
  have k := ly_revb 2 (c' := (3, [(0, .ref Rd)], [.int (Int32.ofInt 59), .ref Rd], me_w M J)) rfl k
  obtain ⟨d1, o1, ed, kc, k⟩ := lz_c (g := 36) (q := 1) (vs := [.ref Rd, .int (Int32.ofInt 59)]) (rest := []) rfl rfl (by decide) (Or.inr (Or.inl ⟨_, rfl, rfl⟩)) rfl k
  rcases lc_takes hP hS hp kc with ⟨hg, e⟩ | ⟨hg, e⟩
  · subst e
    have k : nt_rn X _ 35 (6, [(0, .ref Rd)], [.int (Int32.ofInt 1)], me_w M (nt_u J Rd 1 (nI (lb_s f t (min (p + 1) t))))) _ := k
    have k := ly_revb 1 (c' := (if (Int32.ofInt 1) = 0 then 11 else 9, [(0, .ref Rd)], [], me_w M (nt_u J Rd 1 (nI (lb_s f t (min (p + 1) t)))))) rfl k
    rw [if_neg (show ¬ ((Int32.ofInt 1) = 0) from by decide)] at k
    have k := ly_revb 1 (c' := (10, [(0, .ref Rd)], [.int (Int32.ofInt 1)], me_w M (nt_u J Rd 1 (nI (lb_s f t (min (p + 1) t)))))) rfl k
    have k := lz_ri rfl (by decide) k
    exact Or.inl ⟨hg, k⟩
  · subst e
    have k : nt_rn X _ 35 (6, [(0, .ref Rd)], [.int (Int32.ofInt 0)], me_w M J) _ := k
    have k := ly_revb 1 (c' := (if (Int32.ofInt 0) = 0 then 11 else 9, [(0, .ref Rd)], [], me_w M J)) rfl k
    rw [if_pos (show (Int32.ofInt 0) = 0 from by decide)] at k
    have k := ly_revb 1 (c' := (12, [(0, .ref Rd)], [.ref Rd], me_w M J)) rfl k
    obtain ⟨d1, o1, ed, kc, k⟩ := lz_c (g := 37) (q := 1) (vs := [.ref Rd]) (rest := []) rfl rfl (by decide) (Or.inr (Or.inl ⟨_, rfl, rfl⟩)) rfl k
    have e := lc_sign hP hS hp kc
    subst e
    have k : nt_rn X _ 35 (15, [(0, .ref Rd)], [.int (lb_g f t p)], me_w M J) _ := k
    have k := ly_revb 2 (c' := (if (lb_g f t p) = (Int32.ofInt (-1)) then 24 else 19, [(0, .ref Rd)], [], me_w M J)) rfl k
    by_cases h16 : (lb_g f t p) = (Int32.ofInt (-1))
    · rw [if_pos (show (lb_g f t p) = (Int32.ofInt (-1)) from h16)] at k
      have k := ly_revb 1 (c' := (25, [(0, .ref Rd)], [.int (Int32.ofInt 0)], me_w M J)) rfl k
      have k := lz_ri rfl (by decide) k
      exact Or.inr (Or.inl ⟨h16, k⟩)
    · rw [if_neg (show ¬ ((lb_g f t p) = (Int32.ofInt (-1))) from h16)] at k
      have k := ly_revb 2 (c' := (21, [(0, .ref Rd)], [.int (Int32.ofInt 0), .ref Rd], me_w M J)) rfl k
      obtain ⟨d1, o1, ed, kc, k⟩ := lz_c (g := 31) (q := 1) (vs := [.ref Rd, .int (Int32.ofInt 0)]) (rest := []) rfl rfl (by decide) (Or.inr (Or.inl ⟨_, rfl, rfl⟩)) rfl k
      rcases lc_fail hP hS hp kc with ⟨hf, e⟩ | ⟨hf, e⟩
      · subst e
        have k : nt_rn X _ 35 (24, [(0, .ref Rd)], [], me_w M (nt_u (nt_u J Rd 2 (Int32.ofInt 1 + Int32.ofInt 8 * nI p + Int32.ofInt 0)) Rd 1 (nI t))) _ := k
        have k := ly_revb 1 (c' := (25, [(0, .ref Rd)], [.int (Int32.ofInt 0)], me_w M (nt_u (nt_u J Rd 2 (Int32.ofInt 1 + Int32.ofInt 8 * nI p + Int32.ofInt 0)) Rd 1 (nI t)))) rfl k
        have k := lz_ri rfl (by decide) k
        exact Or.inr (Or.inr (Or.inl ⟨hg, h16, hf, k⟩))
      · subst e
        have k : nt_rn X _ 35 (24, [(0, .ref Rd)], [], me_w M (nt_u J Rd 1 (nI t))) _ := k
        have k := ly_revb 1 (c' := (25, [(0, .ref Rd)], [.int (Int32.ofInt 0)], me_w M (nt_u J Rd 1 (nI t)))) rfl k
        have k := lz_ri rfl (by decide) k
        exact Or.inr (Or.inr (Or.inr ⟨hg, h16, hf, k⟩))
theorem lc_counts {X : nt_X} {d t Rd Tp By RR Sp : Nat} {f : Nat → Int32} {M : nt_M} {J0 J : Nat → Nat → Int32} {o : Option Value × nt_M} {p m : Nat} {fa : Int32} {s : Nat × (Nat → Int32)}  (hP : lc_P M J0 f t Rd Tp By RR Sp) (hS : lc_S J0 Rd RR Sp p fa m s J) (hp : p ≤ t) (k : nt_ev X d 53 [.ref RR] (me_w M J) o) : m < 60 ∧ o = (some (.int (Int32.ofInt 1)), me_w M (nt_u J RR 3 (nI (m + 1)))) ∨ m = 60 ∧ fa = 0 ∧ o = (some (.int (Int32.ofInt 0)), me_w M (nt_u (nt_u J Rd 2 (Int32.ofInt 1 + Int32.ofInt 8 * nI p + Int32.ofInt 3)) Rd 1 (nI t))) ∨ m = 60 ∧ ¬ fa = 0 ∧ o = (some (.int (Int32.ofInt 0)), me_w M (nt_u J Rd 1 (nI t))) := by
  have k : nt_rn X d 53 (0, [(0, .ref RR)], [], me_w M J) o := k
  have t4 : t ≤ 400 := hP.2.2.2.2.1
  have m6 : m ≤ 60 := hS.2.2.2.2.2.2.2
  have k := ly_revb 1 (c' := (1, [(0, .ref RR)], [.ref RR], me_w M J)) rfl k
  have k := lz_get (a := RR) (g := 503) (M := me_w M J) (v := .int (nI m)) rfl (congrArg Value.int (hS.2.2.2.1)) k
  have k := ly_revb 2 (c' := (if (nI m) < (Int32.ofInt 60) then 19 else 9, [(0, .ref RR)], [], me_w M J)) rfl k
  by_cases h6 : m < 60
  · rw [if_pos (show (nI m) < (Int32.ofInt 60) from show nI m < nI 60 from nI_lt h6 (by omega))] at k
    have k := ly_revb 2 (c' := (21, [(0, .ref RR)], [.ref RR, .ref RR], me_w M J)) rfl k
    have k := lz_get (a := RR) (g := 503) (M := me_w M J) (v := .int (nI m)) rfl (congrArg Value.int (hS.2.2.2.1)) k
    have k := ly_revb 2 (c' := (26, [(0, .ref RR)], [.int ((nI m) + (Int32.ofInt 1)), .ref RR], me_w M J)) rfl k
    rw [show ((nI m) + (Int32.ofInt 1) : Int32) = nI (m + 1) from me_add (k := 1)] at k
    have k := me_put rfl (by decide) k
    have k : nt_rn X _ 53 (29, [(0, .ref RR)], [], me_w M (nt_u J RR 3 (nI (m + 1)))) _ := k
    have k := ly_revb 1 (c' := (30, [(0, .ref RR)], [.int (Int32.ofInt 1)], me_w M (nt_u J RR 3 (nI (m + 1))))) rfl k
    have k := lz_ri rfl (by decide) k
    exact Or.inl ⟨h6, k⟩
  · rw [if_neg (show ¬ ((nI m) < (Int32.ofInt 60)) from show ¬ nI m < nI 60 from nI_nlt (Nat.not_lt.mp h6) (by omega))] at k
    have k := ly_revb 1 (c' := (10, [(0, .ref RR)], [.ref RR], me_w M J)) rfl k
    have k := lz_get (a := RR) (g := 500) (M := me_w M J) (v := .ref Rd) rfl (nt_gfR rfl hP.1.2.2.1) k
    have k := ly_revb 1 (c' := (14, [(0, .ref RR)], [.int (Int32.ofInt 3), .ref Rd], me_w M J)) rfl k
    obtain ⟨d1, o1, ed, kc, k⟩ := lz_c (g := 31) (q := 1) (vs := [.ref Rd, .int (Int32.ofInt 3)]) (rest := []) rfl rfl (by decide) (Or.inr (Or.inl ⟨_, rfl, rfl⟩)) rfl k
    rcases lc_fail hP hS hp kc with ⟨hf, e⟩ | ⟨hf, e⟩
    · subst e
      have k : nt_rn X _ 53 (17, [(0, .ref RR)], [], me_w M (nt_u (nt_u J Rd 2 (Int32.ofInt 1 + Int32.ofInt 8 * nI p + Int32.ofInt 3)) Rd 1 (nI t))) _ := k
      have k := ly_revb 1 (c' := (18, [(0, .ref RR)], [.int (Int32.ofInt 0)], me_w M (nt_u (nt_u J Rd 2 (Int32.ofInt 1 + Int32.ofInt 8 * nI p + Int32.ofInt 3)) Rd 1 (nI t)))) rfl k
      have k := lz_ri rfl (by decide) k
      exact Or.inr (Or.inl ⟨by omega, hf, k⟩)
    · subst e
      have k : nt_rn X _ 53 (17, [(0, .ref RR)], [], me_w M (nt_u J Rd 1 (nI t))) _ := k
      have k := ly_revb 1 (c' := (18, [(0, .ref RR)], [.int (Int32.ofInt 0)], me_w M (nt_u J Rd 1 (nI t)))) rfl k
      have k := lz_ri rfl (by decide) k
      exact Or.inr (Or.inr ⟨by omega, hf, k⟩)
theorem lc_add {X : nt_X} {d t Rd Tp By RR Sp : Nat} {f : Nat → Int32} {M : nt_M} {J0 J : Nat → Nat → Int32} {o : Option Value × nt_M} {p m : Nat} {fa : Int32} {s : Nat × (Nat → Int32)} {x : Int32} (hP : lc_P M J0 f t Rd Tp By RR Sp) (hS : lc_S J0 Rd RR Sp p fa m s J) (hp : p ≤ t) (k : nt_ev X d 54 [.ref RR, .int (x)] (me_w M J) o) : ∃ J', o = (none, me_w M J') ∧ lc_S J0 Rd RR Sp p fa m (lb_e s x) (J') := by
  have k : nt_rn X d 54 (0, [(0, .ref RR), (1, .int (x))], [], me_w M J) o := k
  have t4 : t ≤ 400 := hP.2.2.2.2.1
  have s4 : s.1 ≤ 400 := hS.2.2.2.2.2.2.1
  have k := ly_revb 1 (c' := (1, [(0, .ref RR), (1, .int (x))], [.ref RR], me_w M J)) rfl k
  have k := lz_get (a := RR) (g := 502) (M := me_w M J) (v := .int (nI s.1)) rfl (congrArg Value.int (hS.2.2.1)) k
  have k := ly_revb 1 (c' := (5, [(0, .ref RR), (1, .int (x))], [.ref RR, .int (nI s.1)], me_w M J)) rfl k
  have k := lz_get (a := RR) (g := 501) (M := me_w M J) (v := .ref Sp) rfl (nt_gfR rfl hP.1.2.2.2) k
  have k := lz_len rfl (hP.2.2.2.2.2.2) k
  rw [show nt_l (me_w M J) Sp = 400 from hP.2.2.2.2.2.1] at k
  have k : nt_rn X _ 54 (9, [(0, .ref RR), (1, .int (x))], [.int (nI 400), .int (nI s.1)], me_w M J) _ := k
  have k := ly_revb 1 (c' := (if (nI 400) ≤ (nI s.1) then 32 else 12, [(0, .ref RR), (1, .int (x))], [], me_w M J)) rfl k
  by_cases h9 : 400 ≤ s.1
  · rw [if_pos (show (nI 400) ≤ (nI s.1) from show nI 400 ≤ nI s.1 from nI_le h9 (by omega))] at k
    have k := lz_rv rfl rfl k
    exact ⟨J, k, by rw [show lb_e s x = s from if_neg (by omega)]; exact hS⟩
  · rw [if_neg (show ¬ ((nI 400) ≤ (nI s.1)) from show ¬ nI 400 ≤ nI s.1 from nI_ge (Nat.not_le.mp h9) (by omega))] at k
    have k := ly_revb 1 (c' := (13, [(0, .ref RR), (1, .int (x))], [.ref RR], me_w M J)) rfl k
    have k := lz_get (a := RR) (g := 501) (M := me_w M J) (v := .ref Sp) rfl (nt_gfR rfl hP.1.2.2.2) k
    have k := ly_revb 1 (c' := (17, [(0, .ref RR), (1, .int (x))], [.ref RR, .ref Sp], me_w M J)) rfl k
    have k := lz_get (a := RR) (g := 502) (M := me_w M J) (v := .int (nI s.1)) rfl (congrArg Value.int (hS.2.2.1)) k
    have k := ly_revb 1 (c' := (21, [(0, .ref RR), (1, .int (x))], [.int (x), .int (nI s.1), .ref Sp], me_w M J)) rfl k
    have k := me_iast (q := s.1) rfl (rfl) (by omega) k
    have k := ly_revb 2 (c' := (24, [(0, .ref RR), (1, .int (x))], [.ref RR, .ref RR], me_w M (nt_u J Sp s.1 (x)))) rfl k
    have k := lz_get (a := RR) (g := 502) (M := me_w M (nt_u J Sp s.1 (x))) (v := .int (nI s.1)) rfl (congrArg Value.int ((me_uj (hP.2.1.2.2.2.2.2.2.2.2)).trans (hS.2.2.1))) k
    have k := ly_revb 2 (c' := (29, [(0, .ref RR), (1, .int (x))], [.int ((nI s.1) + (Int32.ofInt 1)), .ref RR], me_w M (nt_u J Sp s.1 (x)))) rfl k
    rw [show ((nI s.1) + (Int32.ofInt 1) : Int32) = nI (s.1 + 1) from me_add (k := 1)] at k
    have k := me_put rfl (by decide) k
    have k : nt_rn X _ 54 (32, [(0, .ref RR), (1, .int (x))], [], me_w M (nt_u (nt_u J Sp s.1 (x)) RR 2 (nI (s.1 + 1)))) _ := k
    have k := lz_rv rfl rfl k
    exact ⟨_, k, lc_Se hP hS (by omega)⟩
/-- a step more, unless it is none -/
def lb_en (s : Nat × (Nat → Int32)) (x : Int32) : Nat × (Nat → Int32) := if x = Int32.ofInt (-1) then s else lb_e s x
theorem lc_addn {X : nt_X} {d t Rd Tp By RR Sp : Nat} {f : Nat → Int32} {M : nt_M} {J0 J : Nat → Nat → Int32} {o : Option Value × nt_M} {p m : Nat} {fa : Int32} {s : Nat × (Nat → Int32)} {x : Int32} (hP : lc_P M J0 f t Rd Tp By RR Sp) (hS : lc_S J0 Rd RR Sp p fa m s J) (hp : p ≤ t) (k : nt_ev X d 57 [.ref RR, .int (x)] (me_w M J) o) : ∃ J', o = (none, me_w M J') ∧ lc_S J0 Rd RR Sp p fa m (lb_en s x) (J') := by
  have k : nt_rn X d 57 (0, [(0, .ref RR), (1, .int (x))], [], me_w M J) o := k
  have t4 : t ≤ 400 := hP.2.2.2.2.1
  have k := ly_revb 3 (c' := (if x = (Int32.ofInt (-1)) then 10 else 5, [(0, .ref RR), (1, .int (x))], [], me_w M J)) rfl k
  by_cases h2 : x = (Int32.ofInt (-1))
  · rw [if_pos (show x = (Int32.ofInt (-1)) from h2)] at k
    have k := lz_rv rfl rfl k
    exact ⟨J, k, by rw [show lb_en s x = s from if_pos h2]; exact hS⟩
  · rw [if_neg (show ¬ (x = (Int32.ofInt (-1))) from h2)] at k
    have k := ly_revb 2 (c' := (7, [(0, .ref RR), (1, .int (x))], [.int (x), .ref RR], me_w M J)) rfl k
    obtain ⟨d1, o1, ed, kc, k⟩ := lz_c (g := 54) (q := 1) (vs := [.ref RR, .int (x)]) (rest := []) rfl rfl (by decide) (Or.inr (Or.inl ⟨_, rfl, rfl⟩)) rfl k
    obtain ⟨J', e, hS'⟩ := lc_add hP hS hp kc
    subst e
    have k : nt_rn X _ 57 (10, [(0, .ref RR), (1, .int (x))], [], me_w M (J')) _ := k
    have k := lz_rv rfl rfl k
    exact ⟨J', k, by rw [show lb_en s x = lb_e s x from if_neg h2]; exact hS'⟩
