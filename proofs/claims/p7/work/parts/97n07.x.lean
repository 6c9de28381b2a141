/-! days -/
theorem mx_aald {X : nt_X} {d mi pc a g t : Nat} {ls : nt_V} {st : List Value} {M : nt_M} {o : Option Value × nt_M} {i : Int32} (hat : nt_at mi pc = some (pc, .aaload, g, t)) (k : nt_rn X d mi (pc, ls, .int i :: .ref a :: st, M) o) : nt_rn X d mi (pc + 1, ls, nt_rv (nt_R M a i.toNatClampNeg) :: st, M) o := by
  obtain ⟨c', hs, k⟩ := lz_s hat rfl k
  have hs : (if nt_k M a = 17 then nt_in M a 17 i (some (pc + 1, ls, nt_rv (nt_R M a i.toNatClampNeg) :: st, M)) else nt_in M a 16 i (some (pc + 1, ls, nt_rv (nt_R M a i.toNatClampNeg) :: st, M))) = some c' := hs
  by_cases h : nt_k M a = 17
  · rw [if_pos h] at hs
    have e := lz_in (y := none) hs
    cases e
    exact k
  · rw [if_neg h] at hs
    have e := lz_in (y := none) hs
    cases e
    exact k
theorem mx_ran {X : nt_X} {d mi pc g t : Nat} {ls : nt_V} {M : nt_M} {o : Option Value × nt_M} {q : String} (hat : nt_at mi pc = some (pc, .areturn, g, t)) (hm : (nt_m mi).2.2.2.1 = some (.object q)) (k : nt_rn X d mi (pc, ls, [.null], M) o) : o = (some .null, M) := by
  have h := lz_ret hat (Or.inr (Or.inr (Or.inl rfl))) k
  unfold nt_re at h
  rw [hm] at h
  have h : some (some Value.null, M) = some o := h
  cases h
  rfl
theorem xr112 {X : nt_X} {d ru : Nat} {M : nt_M} {o : Option Value × nt_M} {p : Nat → Nat} {v1 : Int32} {J : Nat → Nat → Int32} (hp : xs_P M p) (h0 : ¬ v1 < 0) (h1 : ¬ J (p 16) 4 ≤ v1) (hr : nt_R M (p 23) v1.toNatClampNeg = some ru) (k : nt_ev X d 112 [.ref (p 16), .int v1] (me_w M J) o) : o = (some (.ref ru), me_w M J) := by
  have k : nt_rn X d 112 (0, [(0, .ref (p 16)), (1, .int v1)], [], me_w M J) o := k
  have k := ly_revb 2 (c' := (if v1 < 0 then 21 else 4, [(0, .ref (p 16)), (1, .int v1)], [], me_w M J)) rfl k
  rw [if_neg h0] at k
  have k := ly_revb 2 (c' := (6, [(0, .ref (p 16)), (1, .int v1)], [.ref (p 16), .int v1], me_w M J)) rfl k
  have k := lz_get (a := (p 16)) (g := 1004) (M := me_w M J) (v := .int (J (p 16) 4)) rfl rfl k
  have k := ly_revb 1 (c' := (if J (p 16) 4 ≤ v1 then 21 else 12, [(0, .ref (p 16)), (1, .int v1)], [], me_w M J)) rfl k
  rw [if_neg h1] at k
  have k := ly_revb 1 (c' := (13, [(0, .ref (p 16)), (1, .int v1)], [.ref (p 16)], me_w M J)) rfl k
  have k := lz_get (a := (p 16)) (g := 1003) (M := me_w M J) (v := .ref (p 23)) rfl (nt_gfR rfl (hp.1 (16, 3, 23) (by decide))) k
  have k := ly_revb 1 (c' := (17, [(0, .ref (p 16)), (1, .int v1)], [.int v1, .ref (p 23)], me_w M J)) rfl k
  have k := mx_aald rfl k
  rw [show nt_R (me_w M J) (p 23) v1.toNatClampNeg = some ru from hr] at k
  have k := ly_revb 1 (c' := (22, [(0, .ref (p 16)), (1, .int v1)], [.ref ru], me_w M J)) rfl k
  exact lz_ra rfl rfl k
theorem xr112N {X : nt_X} {d : Nat} {M : nt_M} {o : Option Value × nt_M} {p : Nat → Nat} {v1 : Int32} {J : Nat → Nat → Int32} (h0 : v1 < 0) (k : nt_ev X d 112 [.ref (p 16), .int v1] (me_w M J) o) : o = (some .null, me_w M J) := by
  have k : nt_rn X d 112 (0, [(0, .ref (p 16)), (1, .int v1)], [], me_w M J) o := k
  have k := ly_revb 2 (c' := (if v1 < 0 then 21 else 4, [(0, .ref (p 16)), (1, .int v1)], [], me_w M J)) rfl k
  rw [if_pos h0] at k
  have k := ly_revb 1 (c' := (22, [(0, .ref (p 16)), (1, .int v1)], [.null], me_w M J)) rfl k
  exact mx_ran rfl rfl k
theorem xw_108 {p : Nat → Nat} {L : Nat → Nat → Int64} {e : Nat → Int32} {c : Nat} {v : Int32} {J : Nat → Nat → Int32} (h : xk_K e (J (p 4))) (h0 : 0 ≤ v.toInt) : xr_W ((x190_108 p L c v J).1 (p 4)) := by
  have fin : ∀ J1 : Nat → Nat → Int32, xk_K e (J1 (p 4)) → xr_W ((nt_u (nt_u J1 (p 4) 4 ((J1 (p 4) 4) + (Int32.ofInt 1))) (p 4) 6 (Int32.ofInt 0)) (p 4)) := fun J1 h => xr_up (xr_up h.1 (xr_any rfl)) (xr_any rfl)
  refine x190_108_rule (I := fun _ v2 J1 => xk_K e (J1 (p 4)) ∧ 0 ≤ v2.toInt) (Q := fun r => xr_W (r.1 (p 4))) ?_ ?_ _ _ _ ⟨h, h0⟩
  · intro v2 J1 h
    exact fin J1 h.1
  · intro c v2 J1 h
    by_cases h1 : J1 (p 4) 1 ≤ v2
    · rw [if_pos h1]
      exact fin J1 h.1
    · rw [if_neg h1]
      split
      · exact ⟨xk_t h.1 (xw_202 h.1.1 (xi_l5 h.1.1 h1 h.2)), xi_nn h1 h.2⟩
      · exact ⟨h.1, xi_nn h1 h.2⟩
theorem xw_50 {p : Nat → Nat} {v1 : Int32} {e : Nat → Int32} {c : Nat} {v : Int32} {J : Nat → Nat → Int32} {L : Nat → Nat → Int64} (hd : p 4 ≠ p 0) (h : xk_K e (J (p 4))) (h0 : 0 ≤ v.toInt) : xr_W ((x190_50 p v1 c v J L).1 (p 4)) := by
  refine x190_50_rule (I := fun _ v2 J1 _ => xk_K e (J1 (p 4)) ∧ 0 ≤ v2.toInt) (Q := fun r => xr_W (r.1 (p 4))) ?_ ?_ _ _ _ _ ⟨h, h0⟩
  · intro v2 J1 L1 h
    exact xw_108 h.1 (by decide)
  · intro c v2 J1 L1 h
    by_cases h1 : J1 (p 4) 3 ≤ v2
    · rw [if_pos h1]
      exact xw_108 h.1 (by decide)
    · rw [if_neg h1]
      have l7 := xi_l7 h.1.1 h1 h.2
      split
      · split
        · exact ⟨h.1, xi_nn h1 h.2⟩
        · exact ⟨xk_t h.1 (xw_192 hd (xi_va h.1.1 l7) l7 h.1.1), xi_nn h1 h.2⟩
      · exact ⟨h.1, xi_nn h1 h.2⟩
theorem xw_190 {p : Nat → Nat} {v1 : Int32} {J : Nat → Nat → Int32} {L : Nat → Nat → Int64} (hd : p 4 ≠ p 0) (h : xr_W (J (p 4))) : xr_W ((x190 p v1 J L).1 (p 4)) := by
  unfold x190
  refine x190_2_rule (I := fun _ v2 J1 => xk_K (J (p 4)) (J1 (p 4)) ∧ 0 ≤ v2.toInt) (Q := fun r => xr_W (r.1 (p 4))) ?_ ?_ _ _ _ ⟨xk_r h, by decide⟩
  · intro v2 J1 h
    exact xw_50 hd h.1 (by decide)
  · intro c v2 J1 h
    by_cases h1 : J1 (p 4) 3 ≤ v2
    · rw [if_pos h1]
      exact xw_50 hd h.1 (by decide)
    · rw [if_neg h1]
      split
      · split
        · exact ⟨xk_t h.1 (xw_191 h.1.1 (xi_l7 h.1.1 h1 h.2)), xi_nn h1 h.2⟩
        · exact ⟨h.1, xi_nn h1 h.2⟩
      · exact ⟨h.1, xi_nn h1 h.2⟩
/-! Model.days -/
def x186_38 (p : Nat → Nat) (v1 : Int32) (v2 : Int32) : Nat → Int32 → (Nat → Nat → Int32) → (Nat → Nat → Int64) → Int32 × (Nat → Nat → Int32) × (Nat → Nat → Int64)
  | 0, v3, J, L => (J (p 4) 4, J, L)
  | c + 1, v3, J, L => if v2 ≤ v3 then (J (p 4) 4, J, L)
    else (x186_38 p v1 v2 c (v3 + (Int32.ofInt 1)) ((x190 p v1 J L).1) ((x190 p v1 J L).2))
theorem xt186_38 {X : nt_X} {d : Nat} {M : nt_M} {o : Option Value × nt_M} {p : Nat → Nat} {v1 : Int32} {v2 : Int32} (hp : xs_P M p) : ∀ (c : Nat) (v3 : Int32) (J : Nat → Nat → Int32) (L : Nat → Nat → Int64), (xr_W (J (p 4)) ∧ v2.toInt - v3.toInt ≤ c) → nt_rn X d 186 (38, [(0, .ref (p 0)), (1, .int v1), (2, .int v2), (3, .int v3)], [], me_w (lw M L) J) o → o = (some (.int ((x186_38 p v1 v2 c v3 J L).1)), me_w (lw M ((x186_38 p v1 v2 c v3 J L).2.2)) ((x186_38 p v1 v2 c v3 J L).2.1)) := by
  intro c
  induction c with
  | zero =>
    intro v3 J L hc k
    have k := ly_revb 3 (c' := (if v2 ≤ v3 then 54 else 43, [(0, .ref (p 0)), (1, .int v1), (2, .int v2), (3, .int v3)], [], me_w (lw M L) J)) rfl k
    have h40 : v2 ≤ v3 := lx_end hc.2
    rw [if_pos h40] at k
    have k := ly_revb 1 (c' := (55, [(0, .ref (p 0)), (1, .int v1), (2, .int v2), (3, .int v3)], [.ref (p 0)], me_w (lw M L) J)) rfl k
    have k := lz_get (a := (p 0)) (g := 1127) (M := me_w (lw M L) J) (v := .ref (p 4)) rfl (nt_gfR rfl (hp.1 (0, 27, 4) (by decide))) k
    have k := ly_revb 1 (c' := (59, [(0, .ref (p 0)), (1, .int v1), (2, .int v2), (3, .int v3)], [.int (Int32.ofInt 4), .ref (p 4)], me_w (lw M L) J)) rfl k
    have k := mx_iald (v := J (p 4) 4) rfl (hp.2.2.1 4 (by omega)) ((congrArg (J (p 4)) (show (Int32.ofInt 4).toNatClampNeg = 4 from rfl)).trans (rfl)) k
    have k := lz_ri rfl (by decide) k
    rw [k, x186_38]
  | succ c ih =>
    intro v3 J L hc k
    have k := ly_revb 3 (c' := (if v2 ≤ v3 then 54 else 43, [(0, .ref (p 0)), (1, .int v1), (2, .int v2), (3, .int v3)], [], me_w (lw M L) J)) rfl k
    by_cases h40 : v2 ≤ v3
    · rw [if_pos h40] at k
      have k := ly_revb 1 (c' := (55, [(0, .ref (p 0)), (1, .int v1), (2, .int v2), (3, .int v3)], [.ref (p 0)], me_w (lw M L) J)) rfl k
      have k := lz_get (a := (p 0)) (g := 1127) (M := me_w (lw M L) J) (v := .ref (p 4)) rfl (nt_gfR rfl (hp.1 (0, 27, 4) (by decide))) k
      have k := ly_revb 1 (c' := (59, [(0, .ref (p 0)), (1, .int v1), (2, .int v2), (3, .int v3)], [.int (Int32.ofInt 4), .ref (p 4)], me_w (lw M L) J)) rfl k
      have k := mx_iald (v := J (p 4) 4) rfl (hp.2.2.1 4 (by omega)) ((congrArg (J (p 4)) (show (Int32.ofInt 4).toNatClampNeg = 4 from rfl)).trans (rfl)) k
      have k := lz_ri rfl (by decide) k
      rw [k, x186_38, if_pos h40]
    · rw [if_neg h40] at k
      have k := ly_revb 2 (c' := (45, [(0, .ref (p 0)), (1, .int v1), (2, .int v2), (3, .int v3)], [.int v1, .ref (p 0)], me_w (lw M L) J)) rfl k
      obtain ⟨d1, o1, ed, kc, k⟩ := lz_c (g := 190) (q := 1) (vs := [.ref (p 0), .int v1]) (rest := []) rfl rfl (by decide) (Or.inr (Or.inl ⟨_, rfl, rfl⟩)) rfl k
      have e1 := xt190 hp hc.1 kc
      subst e1
      have k : nt_rn X _ 186 (48, [(0, .ref (p 0)), (1, .int v1), (2, .int v2), (3, .int v3)], [], me_w (lw M ((x190 p v1 J L).2)) ((x190 p v1 J L).1)) _ := k
      have k := ly_revb 2 (c' := (38, [(3, .int (v3 + (Int32.ofInt 1))), (0, .ref (p 0)), (1, .int v1), (2, .int v2)], [], me_w (lw M ((x190 p v1 J L).2)) ((x190 p v1 J L).1))) rfl k
      have k := nt_rn_w (a := [(3, .int (v3 + (Int32.ofInt 1))), (0, .ref (p 0)), (1, .int v1), (2, .int v2)]) (b := [(0, .ref (p 0)), (1, .int v1), (2, .int v2), (3, .int (v3 + (Int32.ofInt 1)))]) ⟨rfl, rfl, rfl, rfl, trivial⟩ rfl k
      have k := ih (v3 + (Int32.ofInt 1)) ((x190 p v1 J L).1) ((x190 p v1 J L).2) (⟨xw_190 (hp.2.1 4 0 (by omega) (by omega) (by decide)) hc.1, lx_dec h40 hc.2⟩) k
      rw [k, x186_38, if_neg h40]
theorem x186_38_rule {p : Nat → Nat} {v1 : Int32} {v2 : Int32} {I : Nat → Int32 → (Nat → Nat → Int32) → (Nat → Nat → Int64) → Prop} {Q : Int32 × (Nat → Nat → Int32) × (Nat → Nat → Int64) → Prop} (h0 : ∀ (v3 : Int32) (J : Nat → Nat → Int32) (L : Nat → Nat → Int64), I 0 v3 J L → Q (J (p 4) 4, J, L)) (h1 : ∀ (c : Nat) (v3 : Int32) (J : Nat → Nat → Int32) (L : Nat → Nat → Int64), I (c + 1) v3 J L →
    if v2 ≤ v3 then (Q (J (p 4) 4, J, L))
    else (I c (v3 + (Int32.ofInt 1)) ((x190 p v1 J L).1) ((x190 p v1 J L).2))) : ∀ (c : Nat) (v3 : Int32) (J : Nat → Nat → Int32) (L : Nat → Nat → Int64), I c v3 J L → Q (x186_38 p v1 v2 c v3 J L) := by
  intro c
  induction c with
  | zero =>
    intro v3 J L hi
    rw [x186_38]
    exact h0 v3 J L hi
  | succ c ih =>
    intro v3 J L hi
    have hi := h1 c v3 J L hi
    rw [x186_38]
    by_cases h : v2 ≤ v3
    · rw [if_pos h] at hi ⊢
      exact hi
    · rw [if_neg h] at hi ⊢
      exact ih _ _ _ hi
def x186 (p : Nat → Nat) (v1 : Int32) (v2 : Int32) (J : Nat → Nat → Int32) (L : Nat → Nat → Int64) : Int32 × (Nat → Nat → Int32) × (Nat → Nat → Int64) := if (x187 p v1 J) = 0 then (Int32.ofInt (-1), J, L)
  else if (x145 v2.toInt64 (Int64.ofNat 1) 100) = 0 then (Int32.ofInt (-1), J, L)
    else if ((J (p 4) 4) + v2) ≤ (Int32.ofInt 200) then (x186_38 p v1 v2 v2.toNatClampNeg (Int32.ofInt 0) J L)
      else (Int32.ofInt (-1), J, L)
theorem xt186 {X : nt_X} {d : Nat} {M : nt_M} {o : Option Value × nt_M} {p : Nat → Nat} {v1 : Int32} {v2 : Int32} {J : Nat → Nat → Int32} {L : Nat → Nat → Int64} (hp : xs_P M p) (hw : xr_W (J (p 4))) (k : nt_ev X d 186 [.ref (p 0), .int v1, .int v2] (me_w (lw M L) J) o) : o = (some (.int ((x186 p v1 v2 J L).1)), me_w (lw M ((x186 p v1 v2 J L).2.2)) ((x186 p v1 v2 J L).2.1)) := by
  have k : nt_rn X d 186 (0, [(0, .ref (p 0)), (1, .int v1), (2, .int v2)], [], me_w (lw M L) J) o := k
  have k := ly_revb 2 (c' := (2, [(0, .ref (p 0)), (1, .int v1), (2, .int v2)], [.int v1, .ref (p 0)], me_w (lw M L) J)) rfl k
  obtain ⟨d1, o1, ed, kc, k⟩ := lz_c (g := 187) (q := 1) (vs := [.ref (p 0), .int v1]) (rest := []) rfl rfl (by decide) (Or.inr (Or.inl ⟨_, rfl, rfl⟩)) rfl k
  have e1 := xt187 (xs_lp hp) kc
  subst e1
  have k : nt_rn X _ 186 (5, [(0, .ref (p 0)), (1, .int v1), (2, .int v2)], [.int (x187 p v1 J)], me_w (lw M L) J) _ := k
  have k := ly_revb 1 (c' := (if (x187 p v1 J) = 0 then 34 else 8, [(0, .ref (p 0)), (1, .int v1), (2, .int v2)], [], me_w (lw M L) J)) rfl k
  by_cases h5 : (x187 p v1 J) = 0
  · rw [if_pos h5] at k
    have k := ly_revb 1 (c' := (35, [(0, .ref (p 0)), (1, .int v1), (2, .int v2)], [.int (Int32.ofInt (-1))], me_w (lw M L) J)) rfl k
    have k := lz_ri rfl (by decide) k
    rw [k, x186, if_pos h5]
  · rw [if_neg h5] at k
    have k := ly_revb 4 (c' := (14, [(0, .ref (p 0)), (1, .int v1), (2, .int v2)], [.long 100, .long (Int64.ofNat 1), .long v2.toInt64], me_w (lw M L) J)) rfl k
    obtain ⟨d1, o1, ed, kc, k⟩ := lz_c (g := 145) (q := 0) (vs := [.long v2.toInt64, .long (Int64.ofNat 1), .long 100]) (rest := []) rfl rfl (by decide) (Or.inl ⟨_, rfl, rfl⟩) rfl k
    have e1 := xt145  kc
    subst e1
    have k : nt_rn X _ 186 (17, [(0, .ref (p 0)), (1, .int v1), (2, .int v2)], [.int (x145 v2.toInt64 (Int64.ofNat 1) 100)], me_w (lw M L) J) _ := k
    have k := ly_revb 1 (c' := (if (x145 v2.toInt64 (Int64.ofNat 1) 100) = 0 then 34 else 20, [(0, .ref (p 0)), (1, .int v1), (2, .int v2)], [], me_w (lw M L) J)) rfl k
    by_cases h17 : (x145 v2.toInt64 (Int64.ofNat 1) 100) = 0
    · rw [if_pos h17] at k
      have k := ly_revb 1 (c' := (35, [(0, .ref (p 0)), (1, .int v1), (2, .int v2)], [.int (Int32.ofInt (-1))], me_w (lw M L) J)) rfl k
      have k := lz_ri rfl (by decide) k
      rw [k, x186, if_neg h5, if_pos h17]
    · rw [if_neg h17] at k
      have k := ly_revb 1 (c' := (21, [(0, .ref (p 0)), (1, .int v1), (2, .int v2)], [.ref (p 0)], me_w (lw M L) J)) rfl k
      have k := lz_get (a := (p 0)) (g := 1127) (M := me_w (lw M L) J) (v := .ref (p 4)) rfl (nt_gfR rfl (hp.1 (0, 27, 4) (by decide))) k
      have k := ly_revb 1 (c' := (25, [(0, .ref (p 0)), (1, .int v1), (2, .int v2)], [.int (Int32.ofInt 4), .ref (p 4)], me_w (lw M L) J)) rfl k
      have k := mx_iald (v := J (p 4) 4) rfl (hp.2.2.1 4 (by omega)) ((congrArg (J (p 4)) (show (Int32.ofInt 4).toNatClampNeg = 4 from rfl)).trans (rfl)) k
      have k := ly_revb 4 (c' := (if ((J (p 4) 4) + v2) ≤ (Int32.ofInt 200) then 36 else 34, [(0, .ref (p 0)), (1, .int v1), (2, .int v2)], [], me_w (lw M L) J)) rfl k
      by_cases h31 : ((J (p 4) 4) + v2) ≤ (Int32.ofInt 200)
      · rw [if_pos h31] at k
        have k := ly_revb 2 (c' := (38, [(3, .int (Int32.ofInt 0)), (0, .ref (p 0)), (1, .int v1), (2, .int v2)], [], me_w (lw M L) J)) rfl k
        have k := nt_rn_w (a := [(3, .int (Int32.ofInt 0)), (0, .ref (p 0)), (1, .int v1), (2, .int v2)]) (b := [(0, .ref (p 0)), (1, .int v1), (2, .int v2), (3, .int (Int32.ofInt 0))]) ⟨rfl, rfl, rfl, rfl, trivial⟩ rfl k
        have k := xt186_38 hp  v2.toNatClampNeg (Int32.ofInt 0) J L (⟨hw, lx_beg (by decide)⟩) k
        rw [k, x186, if_neg h5, if_neg h17, if_pos h31]
      · rw [if_neg h31] at k
        have k := ly_revb 1 (c' := (35, [(0, .ref (p 0)), (1, .int v1), (2, .int v2)], [.int (Int32.ofInt (-1))], me_w (lw M L) J)) rfl k
        have k := lz_ri rfl (by decide) k
        rw [k, x186, if_neg h5, if_neg h17, if_neg h31]
theorem x186_38_frJ {p : Nat → Nat} {v1 : Int32} {v2 : Int32} {b : Nat} : ∀ (c : Nat) (v3 : Int32) (J : Nat → Nat → Int32) (L : Nat → Nat → Int64), b ≠ p 0 → b ≠ p 4 → (x186_38 p v1 v2 c v3 J L).2.1 b = J b := by
  intro c
  induction c with
  | zero =>
    intro v3 J L n0 n1
    rw [x186_38]
    all_goals first | (dsimp only; exact (show J b = J b from rfl)) | exact (show J b = J b from rfl)
  | succ c ih =>
    intro v3 J L n0 n1
    rw [x186_38]
    by_cases h : v2 ≤ v3
    · rw [if_pos h]
      all_goals first | (dsimp only; exact (show J b = J b from rfl)) | exact (show J b = J b from rfl)
    · rw [if_neg h]
      exact (ih _ _ _ n0 n1).trans (x190_frJ  n0 n1)
theorem x186_frJ {p : Nat → Nat} {v1 : Int32} {v2 : Int32} {J : Nat → Nat → Int32} {L : Nat → Nat → Int64} {b : Nat} (n0 : b ≠ p 0) (n1 : b ≠ p 4) : (x186 p v1 v2 J L).2.1 b = J b := by
  unfold x186
  by_cases h : (x187 p v1 J) = 0
  · rw [if_pos h]
    all_goals first | (dsimp only; exact (show J b = J b from rfl)) | exact (show J b = J b from rfl)
  · rw [if_neg h]
    by_cases h : (x145 v2.toInt64 (Int64.ofNat 1) 100) = 0
    · rw [if_pos h]
      all_goals first | (dsimp only; exact (show J b = J b from rfl)) | exact (show J b = J b from rfl)
    · rw [if_neg h]
      by_cases h : ((J (p 4) 4) + v2) ≤ (Int32.ofInt 200)
      · rw [if_pos h]
        exact (x186_38_frJ _ _ _ _ n0 n1).trans (rfl)
      · rw [if_neg h]
        all_goals first | (dsimp only; exact (show J b = J b from rfl)) | exact (show J b = J b from rfl)
theorem x186_38_frL {p : Nat → Nat} {v1 : Int32} {v2 : Int32} {b : Nat} : ∀ (c : Nat) (v3 : Int32) (J : Nat → Nat → Int32) (L : Nat → Nat → Int64), b ≠ p 5 → b ≠ p 6 → (x186_38 p v1 v2 c v3 J L).2.2 b = L b := by
  intro c
  induction c with
  | zero =>
    intro v3 J L n0 n1
    rw [x186_38]
    all_goals first | (dsimp only; exact (show L b = L b from rfl)) | exact (show L b = L b from rfl)
  | succ c ih =>
    intro v3 J L n0 n1
    rw [x186_38]
    by_cases h : v2 ≤ v3
    · rw [if_pos h]
      all_goals first | (dsimp only; exact (show L b = L b from rfl)) | exact (show L b = L b from rfl)
    · rw [if_neg h]
      exact (ih _ _ _ n0 n1).trans (x190_frL n0 n1)
theorem x186_frL {p : Nat → Nat} {v1 : Int32} {v2 : Int32} {J : Nat → Nat → Int32} {L : Nat → Nat → Int64} {b : Nat} (n0 : b ≠ p 5) (n1 : b ≠ p 6) : (x186 p v1 v2 J L).2.2 b = L b := by
  unfold x186
  by_cases h : (x187 p v1 J) = 0
  · rw [if_pos h]
    all_goals first | (dsimp only; exact (show L b = L b from rfl)) | exact (show L b = L b from rfl)
  · rw [if_neg h]
    by_cases h : (x145 v2.toInt64 (Int64.ofNat 1) 100) = 0
    · rw [if_pos h]
      all_goals first | (dsimp only; exact (show L b = L b from rfl)) | exact (show L b = L b from rfl)
    · rw [if_neg h]
      by_cases h : ((J (p 4) 4) + v2) ≤ (Int32.ofInt 200)
      · rw [if_pos h]
        exact (x186_38_frL _ _ _ _ n0 n1).trans (rfl)
      · rw [if_neg h]
        all_goals first | (dsimp only; exact (show L b = L b from rfl)) | exact (show L b = L b from rfl)
/-! .days -/
def x110_48 (p : Nat → Nat) (sp : Nat) (ln : Nat) (v1 : Int32) (v2 : Int32) : Nat → Int32 → (Nat → Nat → Int32) → (Nat → Nat → Int64) → Int32 × (Nat → Nat → Int32) × (Nat → Nat → Int64)
  | 0, v3, J, L => (J (p 31) 2, J, L)
  | c + 1, v3, J, L => if v2 ≤ v3 then (J (p 31) 2, J, L)
    else (x110_48 p sp ln v1 v2 c (v3 + (Int32.ofInt 1)) ((x1 p (fun i => p (31 + i)) sp ln J L).1) ((x1 p (fun i => p (31 + i)) sp ln J L).2))
theorem xt110_48 {X : nt_X} {d : Nat} {M : nt_M} {o : Option Value × nt_M} {p : Nat → Nat} {sp : Nat} {ln : Nat} {ru : Nat} {v1 : Int32} {v2 : Int32} (hp : xs_P M p) (hn : xs_Q M (fun i => p (31 + i))) (hs : xs_S M p ru sp ln) (h0 : ¬ v1 < 0) (hr : nt_R M (p 23) v1.toNatClampNeg = some ru) : ∀ (c : Nat) (v3 : Int32) (J : Nat → Nat → Int32) (L : Nat → Nat → Int64), (¬ J (p 16) 4 ≤ v1 ∧ v2.toInt - v3.toInt ≤ c) → nt_rn X d 110 (48, [(0, .ref (p 16)), (1, .int v1), (2, .int v2), (3, .int v3)], [], me_w (lw M L) J) o → o = (some (.int ((x110_48 p sp ln v1 v2 c v3 J L).1)), me_w (lw M ((x110_48 p sp ln v1 v2 c v3 J L).2.2)) ((x110_48 p sp ln v1 v2 c v3 J L).2.1)) := by
  intro c
  induction c with
  | zero =>
    intro v3 J L hc k
    have k := ly_revb 3 (c' := (if v2 ≤ v3 then 75 else 53, [(0, .ref (p 16)), (1, .int v1), (2, .int v2), (3, .int v3)], [], me_w (lw M L) J)) rfl k
    have h50 : v2 ≤ v3 := lx_end hc.2
    rw [if_pos h50] at k
    have k := ly_revb 1 (c' := (76, [(0, .ref (p 16)), (1, .int v1), (2, .int v2), (3, .int v3)], [.ref (p 16)], me_w (lw M L) J)) rfl k
    have k := lz_get (a := (p 16)) (g := 1007) (M := me_w (lw M L) J) (v := .ref (p 31)) rfl (nt_gfR rfl (hp.1 (16, 7, 31) (by decide))) k
    have k := lz_get (a := (p 31)) (g := 602) (M := me_w (lw M L) J) (v := .int (J (p 31) 2)) rfl (congrArg Value.int (rfl)) k
    have k := lz_ri rfl (by decide) k
    rw [k, x110_48]
  | succ c ih =>
    intro v3 J L hc k
    have k := ly_revb 3 (c' := (if v2 ≤ v3 then 75 else 53, [(0, .ref (p 16)), (1, .int v1), (2, .int v2), (3, .int v3)], [], me_w (lw M L) J)) rfl k
    by_cases h50 : v2 ≤ v3
    · rw [if_pos h50] at k
      have k := ly_revb 1 (c' := (76, [(0, .ref (p 16)), (1, .int v1), (2, .int v2), (3, .int v3)], [.ref (p 16)], me_w (lw M L) J)) rfl k
      have k := lz_get (a := (p 16)) (g := 1007) (M := me_w (lw M L) J) (v := .ref (p 31)) rfl (nt_gfR rfl (hp.1 (16, 7, 31) (by decide))) k
      have k := lz_get (a := (p 31)) (g := 602) (M := me_w (lw M L) J) (v := .int (J (p 31) 2)) rfl (congrArg Value.int (rfl)) k
      have k := lz_ri rfl (by decide) k
      rw [k, x110_48, if_pos h50]
    · rw [if_neg h50] at k
      have k := ly_revb 1 (c' := (54, [(0, .ref (p 16)), (1, .int v1), (2, .int v2), (3, .int v3)], [.ref (p 16)], me_w (lw M L) J)) rfl k
      have k := lz_get (a := (p 16)) (g := 1005) (M := me_w (lw M L) J) (v := .ref (p 24)) rfl (nt_gfR rfl (hp.1 (16, 5, 24) (by decide))) k
      have k := ly_revb 1 (c' := (58, [(0, .ref (p 16)), (1, .int v1), (2, .int v2), (3, .int v3)], [.ref (p 16), .ref (p 24)], me_w (lw M L) J)) rfl k
      have k := lz_get (a := (p 16)) (g := 1007) (M := me_w (lw M L) J) (v := .ref (p 31)) rfl (nt_gfR rfl (hp.1 (16, 7, 31) (by decide))) k
      have k := ly_revb 2 (c' := (63, [(0, .ref (p 16)), (1, .int v1), (2, .int v2), (3, .int v3)], [.int v1, .ref (p 16), .ref (p 31), .ref (p 24)], me_w (lw M L) J)) rfl k
      obtain ⟨d1, o1, ed, kc, k⟩ := lz_c (g := 112) (q := 1) (vs := [.ref (p 16), .int v1]) (rest := [.ref (p 31), .ref (p 24)]) rfl rfl (by decide) (Or.inr (Or.inl ⟨_, rfl, rfl⟩)) rfl k
      have e1 := xr112 (M := lw M L) (xs_lp hp) h0 hc.1 hr kc
      subst e1
      have k : nt_rn X _ 110 (66, [(0, .ref (p 16)), (1, .int v1), (2, .int v2), (3, .int v3)], [.ref ru, .ref (p 31), .ref (p 24)], me_w (lw M L) J) _ := k
      obtain ⟨d1, o1, ed, kc, k⟩ := lz_c (g := 1) (q := 1) (vs := [.ref (p 24), .ref (p 31), .ref ru]) (rest := []) rfl rfl (by decide) (Or.inr (Or.inl ⟨_, rfl, rfl⟩)) rfl k
      have e1 := xt1 hp hn (xs_x31 hp) hs kc
      subst e1
      have k : nt_rn X _ 110 (69, [(0, .ref (p 16)), (1, .int v1), (2, .int v2), (3, .int v3)], [], me_w (lw M ((x1 p (fun i => p (31 + i)) sp ln J L).2)) ((x1 p (fun i => p (31 + i)) sp ln J L).1)) _ := k
      have k := ly_revb 2 (c' := (48, [(3, .int (v3 + (Int32.ofInt 1))), (0, .ref (p 16)), (1, .int v1), (2, .int v2)], [], me_w (lw M ((x1 p (fun i => p (31 + i)) sp ln J L).2)) ((x1 p (fun i => p (31 + i)) sp ln J L).1))) rfl k
      have k := nt_rn_w (a := [(3, .int (v3 + (Int32.ofInt 1))), (0, .ref (p 16)), (1, .int v1), (2, .int v2)]) (b := [(0, .ref (p 16)), (1, .int v1), (2, .int v2), (3, .int (v3 + (Int32.ofInt 1)))]) ⟨rfl, rfl, rfl, rfl, trivial⟩ rfl k
      have k := ih (v3 + (Int32.ofInt 1)) ((x1 p (fun i => p (31 + i)) sp ln J L).1) ((x1 p (fun i => p (31 + i)) sp ln J L).2) (⟨by rw [x1_frJ (hp.2.1 16 25 (by omega) (by omega) (by decide)) (hp.2.1 16 31 (by omega) (by omega) (by decide)) (hp.2.1 16 41 (by omega) (by omega) (by decide)) (hp.2.1 16 42 (by omega) (by omega) (by decide)) (hp.2.1 16 43 (by omega) (by omega) (by decide)) (hp.2.1 16 44 (by omega) (by omega) (by decide)) (hp.2.1 16 45 (by omega) (by omega) (by decide)) (hp.2.1 16 46 (by omega) (by omega) (by decide)) (hp.2.1 16 47 (by omega) (by omega) (by decide))]; exact hc.1, lx_dec h50 hc.2⟩) k
      rw [k, x110_48, if_neg h50]
theorem x110_48_rule {p : Nat → Nat} {sp : Nat} {ln : Nat} {v1 : Int32} {v2 : Int32} {I : Nat → Int32 → (Nat → Nat → Int32) → (Nat → Nat → Int64) → Prop} {Q : Int32 × (Nat → Nat → Int32) × (Nat → Nat → Int64) → Prop} (h0 : ∀ (v3 : Int32) (J : Nat → Nat → Int32) (L : Nat → Nat → Int64), I 0 v3 J L → Q (J (p 31) 2, J, L)) (h1 : ∀ (c : Nat) (v3 : Int32) (J : Nat → Nat → Int32) (L : Nat → Nat → Int64), I (c + 1) v3 J L →
    if v2 ≤ v3 then (Q (J (p 31) 2, J, L))
    else (I c (v3 + (Int32.ofInt 1)) ((x1 p (fun i => p (31 + i)) sp ln J L).1) ((x1 p (fun i => p (31 + i)) sp ln J L).2))) : ∀ (c : Nat) (v3 : Int32) (J : Nat → Nat → Int32) (L : Nat → Nat → Int64), I c v3 J L → Q (x110_48 p sp ln v1 v2 c v3 J L) := by
  intro c
  induction c with
  | zero =>
    intro v3 J L hi
    rw [x110_48]
    exact h0 v3 J L hi
  | succ c ih =>
    intro v3 J L hi
    have hi := h1 c v3 J L hi
    rw [x110_48]
    by_cases h : v2 ≤ v3
    · rw [if_pos h] at hi ⊢
      exact hi
    · rw [if_neg h] at hi ⊢
      exact ih _ _ _ hi
def x110 (p : Nat → Nat) (sp : Nat) (ln : Nat) (v1 : Int32) (v2 : Int32) (J : Nat → Nat → Int32) (L : Nat → Nat → Int64) : Int32 × (Nat → Nat → Int32) × (Nat → Nat → Int64) := if (J (p 31) 1) = 0 then (Int32.ofInt (-1), J, L)
  else if (x111 p v1 J) = 0 then (Int32.ofInt (-1), J, L)
    else if v2 < (Int32.ofInt 1) then (Int32.ofInt (-1), J, L)
      else if (Int32.ofInt 100) < v2 then (Int32.ofInt (-1), J, L)
        else if ((J (p 31) 2) + v2) ≤ (Int32.ofInt 200) then (x110_48 p sp ln v1 v2 v2.toNatClampNeg (Int32.ofInt 0) J L)
          else (Int32.ofInt (-1), J, L)
theorem xt110 {X : nt_X} {d : Nat} {M : nt_M} {o : Option Value × nt_M} {p : Nat → Nat} {sp : Nat} {ln : Nat} {ru : Nat} {v1 : Int32} {v2 : Int32} {J : Nat → Nat → Int32} {L : Nat → Nat → Int64} (hp : xs_P M p) (hn : xs_Q M (fun i => p (31 + i))) (hs : xs_S M p ru sp ln) (h0 : ¬ v1 < 0) (hr : nt_R M (p 23) v1.toNatClampNeg = some ru) (h1 : ¬ J (p 16) 4 ≤ v1) (k : nt_ev X d 110 [.ref (p 16), .int v1, .int v2] (me_w (lw M L) J) o) : o = (some (.int ((x110 p sp ln v1 v2 J L).1)), me_w (lw M ((x110 p sp ln v1 v2 J L).2.2)) ((x110 p sp ln v1 v2 J L).2.1)) := by
  have k : nt_rn X d 110 (0, [(0, .ref (p 16)), (1, .int v1), (2, .int v2)], [], me_w (lw M L) J) o := k
  have k := ly_revb 1 (c' := (1, [(0, .ref (p 16)), (1, .int v1), (2, .int v2)], [.ref (p 16)], me_w (lw M L) J)) rfl k
  have k := lz_get (a := (p 16)) (g := 1007) (M := me_w (lw M L) J) (v := .ref (p 31)) rfl (nt_gfR rfl (hp.1 (16, 7, 31) (by decide))) k
  have k := lz_get (a := (p 31)) (g := 601) (M := me_w (lw M L) J) (v := .int (J (p 31) 1)) rfl (congrArg Value.int (rfl)) k
  have k := ly_revb 1 (c' := (if (J (p 31) 1) = 0 then 44 else 10, [(0, .ref (p 16)), (1, .int v1), (2, .int v2)], [], me_w (lw M L) J)) rfl k
  by_cases h7 : (J (p 31) 1) = 0
  · rw [if_pos h7] at k
    have k := ly_revb 1 (c' := (45, [(0, .ref (p 16)), (1, .int v1), (2, .int v2)], [.int (Int32.ofInt (-1))], me_w (lw M L) J)) rfl k
    have k := lz_ri rfl (by decide) k
    rw [k, x110, if_pos h7]
  · rw [if_neg h7] at k
    have k := ly_revb 2 (c' := (12, [(0, .ref (p 16)), (1, .int v1), (2, .int v2)], [.int v1, .ref (p 16)], me_w (lw M L) J)) rfl k
    obtain ⟨d1, o1, ed, kc, k⟩ := lz_c (g := 111) (q := 1) (vs := [.ref (p 16), .int v1]) (rest := []) rfl rfl (by decide) (Or.inr (Or.inl ⟨_, rfl, rfl⟩)) rfl k
    have e1 := xt111 (xs_lp hp) kc
    subst e1
    have k : nt_rn X _ 110 (15, [(0, .ref (p 16)), (1, .int v1), (2, .int v2)], [.int (x111 p v1 J)], me_w (lw M L) J) _ := k
    have k := ly_revb 1 (c' := (if (x111 p v1 J) = 0 then 44 else 18, [(0, .ref (p 16)), (1, .int v1), (2, .int v2)], [], me_w (lw M L) J)) rfl k
    by_cases h15 : (x111 p v1 J) = 0
    · rw [if_pos h15] at k
      have k := ly_revb 1 (c' := (45, [(0, .ref (p 16)), (1, .int v1), (2, .int v2)], [.int (Int32.ofInt (-1))], me_w (lw M L) J)) rfl k
      have k := lz_ri rfl (by decide) k
      rw [k, x110, if_neg h7, if_pos h15]
    · rw [if_neg h15] at k
      have k := ly_revb 3 (c' := (if v2 < (Int32.ofInt 1) then 44 else 23, [(0, .ref (p 16)), (1, .int v1), (2, .int v2)], [], me_w (lw M L) J)) rfl k
      by_cases h20 : v2 < (Int32.ofInt 1)
      · rw [if_pos h20] at k
        have k := ly_revb 1 (c' := (45, [(0, .ref (p 16)), (1, .int v1), (2, .int v2)], [.int (Int32.ofInt (-1))], me_w (lw M L) J)) rfl k
        have k := lz_ri rfl (by decide) k
        rw [k, x110, if_neg h7, if_neg h15, if_pos h20]
      · rw [if_neg h20] at k
        have k := ly_revb 3 (c' := (if (Int32.ofInt 100) < v2 then 44 else 29, [(0, .ref (p 16)), (1, .int v1), (2, .int v2)], [], me_w (lw M L) J)) rfl k
        by_cases h26 : (Int32.ofInt 100) < v2
        · rw [if_pos h26] at k
          have k := ly_revb 1 (c' := (45, [(0, .ref (p 16)), (1, .int v1), (2, .int v2)], [.int (Int32.ofInt (-1))], me_w (lw M L) J)) rfl k
          have k := lz_ri rfl (by decide) k
          rw [k, x110, if_neg h7, if_neg h15, if_neg h20, if_pos h26]
        · rw [if_neg h26] at k
          have k := ly_revb 1 (c' := (30, [(0, .ref (p 16)), (1, .int v1), (2, .int v2)], [.ref (p 16)], me_w (lw M L) J)) rfl k
          have k := lz_get (a := (p 16)) (g := 1007) (M := me_w (lw M L) J) (v := .ref (p 31)) rfl (nt_gfR rfl (hp.1 (16, 7, 31) (by decide))) k
          have k := lz_get (a := (p 31)) (g := 602) (M := me_w (lw M L) J) (v := .int (J (p 31) 2)) rfl (congrArg Value.int (rfl)) k
          have k := ly_revb 4 (c' := (if ((J (p 31) 2) + v2) ≤ (Int32.ofInt 200) then 46 else 44, [(0, .ref (p 16)), (1, .int v1), (2, .int v2)], [], me_w (lw M L) J)) rfl k
          by_cases h41 : ((J (p 31) 2) + v2) ≤ (Int32.ofInt 200)
          · rw [if_pos h41] at k
            have k := ly_revb 2 (c' := (48, [(3, .int (Int32.ofInt 0)), (0, .ref (p 16)), (1, .int v1), (2, .int v2)], [], me_w (lw M L) J)) rfl k
            have k := nt_rn_w (a := [(3, .int (Int32.ofInt 0)), (0, .ref (p 16)), (1, .int v1), (2, .int v2)]) (b := [(0, .ref (p 16)), (1, .int v1), (2, .int v2), (3, .int (Int32.ofInt 0))]) ⟨rfl, rfl, rfl, rfl, trivial⟩ rfl k
            have k := xt110_48 hp hn hs h0 hr  v2.toNatClampNeg (Int32.ofInt 0) J L (⟨h1, lx_beg (by decide)⟩) k
            rw [k, x110, if_neg h7, if_neg h15, if_neg h20, if_neg h26, if_pos h41]
          · rw [if_neg h41] at k
            have k := ly_revb 1 (c' := (45, [(0, .ref (p 16)), (1, .int v1), (2, .int v2)], [.int (Int32.ofInt (-1))], me_w (lw M L) J)) rfl k
            have k := lz_ri rfl (by decide) k
            rw [k, x110, if_neg h7, if_neg h15, if_neg h20, if_neg h26, if_neg h41]
theorem x110_48_frJ {p : Nat → Nat} {sp : Nat} {ln : Nat} {v1 : Int32} {v2 : Int32} {b : Nat} : ∀ (c : Nat) (v3 : Int32) (J : Nat → Nat → Int32) (L : Nat → Nat → Int64), b ≠ p 25 → b ≠ p 31 → b ≠ p 41 → b ≠ p 42 → b ≠ p 43 → b ≠ p 44 → b ≠ p 45 → b ≠ p 46 → b ≠ p 47 → (x110_48 p sp ln v1 v2 c v3 J L).2.1 b = J b := by
  intro c
  induction c with
  | zero =>
    intro v3 J L n0 n1 n2 n3 n4 n5 n6 n7 n8
    rw [x110_48]
    all_goals first | (dsimp only; exact (show J b = J b from rfl)) | exact (show J b = J b from rfl)
  | succ c ih =>
    intro v3 J L n0 n1 n2 n3 n4 n5 n6 n7 n8
    rw [x110_48]
    by_cases h : v2 ≤ v3
    · rw [if_pos h]
      all_goals first | (dsimp only; exact (show J b = J b from rfl)) | exact (show J b = J b from rfl)
    · rw [if_neg h]
      exact (ih _ _ _ n0 n1 n2 n3 n4 n5 n6 n7 n8).trans (x1_frJ  n0 n1 n2 n3 n4 n5 n6 n7 n8)
theorem x110_frJ {p : Nat → Nat} {sp : Nat} {ln : Nat} {v1 : Int32} {v2 : Int32} {J : Nat → Nat → Int32} {L : Nat → Nat → Int64} {b : Nat} (n0 : b ≠ p 25) (n1 : b ≠ p 31) (n2 : b ≠ p 41) (n3 : b ≠ p 42) (n4 : b ≠ p 43) (n5 : b ≠ p 44) (n6 : b ≠ p 45) (n7 : b ≠ p 46) (n8 : b ≠ p 47) : (x110 p sp ln v1 v2 J L).2.1 b = J b := by
  unfold x110
  by_cases h : (J (p 31) 1) = 0
  · rw [if_pos h]
    all_goals first | (dsimp only; exact (show J b = J b from rfl)) | exact (show J b = J b from rfl)
  · rw [if_neg h]
    by_cases h : (x111 p v1 J) = 0
    · rw [if_pos h]
      all_goals first | (dsimp only; exact (show J b = J b from rfl)) | exact (show J b = J b from rfl)
    · rw [if_neg h]
      by_cases h : v2 < (Int32.ofInt 1)
      · rw [if_pos h]
        all_goals first | (dsimp only; exact (show J b = J b from rfl)) | exact (show J b = J b from rfl)
      · rw [if_neg h]
        by_cases h : (Int32.ofInt 100) < v2
        · rw [if_pos h]
          all_goals first | (dsimp only; exact (show J b = J b from rfl)) | exact (show J b = J b from rfl)
        · rw [if_neg h]
          by_cases h : ((J (p 31) 2) + v2) ≤ (Int32.ofInt 200)
          · rw [if_pos h]
            exact (x110_48_frJ _ _ _ _ n0 n1 n2 n3 n4 n5 n6 n7 n8).trans (rfl)
          · rw [if_neg h]
            all_goals first | (dsimp only; exact (show J b = J b from rfl)) | exact (show J b = J b from rfl)
theorem x110_48_frL {p : Nat → Nat} {sp : Nat} {ln : Nat} {v1 : Int32} {v2 : Int32} {b : Nat} : ∀ (c : Nat) (v3 : Int32) (J : Nat → Nat → Int32) (L : Nat → Nat → Int64), b ≠ p 25 → b ≠ p 26 → b ≠ p 27 → (x110_48 p sp ln v1 v2 c v3 J L).2.2 b = L b := by
  intro c
  induction c with
  | zero =>
    intro v3 J L n0 n1 n2
    rw [x110_48]
    all_goals first | (dsimp only; exact (show L b = L b from rfl)) | exact (show L b = L b from rfl)
  | succ c ih =>
    intro v3 J L n0 n1 n2
    rw [x110_48]
    by_cases h : v2 ≤ v3
    · rw [if_pos h]
      all_goals first | (dsimp only; exact (show L b = L b from rfl)) | exact (show L b = L b from rfl)
    · rw [if_neg h]
      exact (ih _ _ _ n0 n1 n2).trans (x1_frL n0 n1 n2)
theorem x110_frL {p : Nat → Nat} {sp : Nat} {ln : Nat} {v1 : Int32} {v2 : Int32} {J : Nat → Nat → Int32} {L : Nat → Nat → Int64} {b : Nat} (n0 : b ≠ p 25) (n1 : b ≠ p 26) (n2 : b ≠ p 27) : (x110 p sp ln v1 v2 J L).2.2 b = L b := by
  unfold x110
  by_cases h : (J (p 31) 1) = 0
  · rw [if_pos h]
    all_goals first | (dsimp only; exact (show L b = L b from rfl)) | exact (show L b = L b from rfl)
  · rw [if_neg h]
    by_cases h : (x111 p v1 J) = 0
    · rw [if_pos h]
      all_goals first | (dsimp only; exact (show L b = L b from rfl)) | exact (show L b = L b from rfl)
    · rw [if_neg h]
      by_cases h : v2 < (Int32.ofInt 1)
      · rw [if_pos h]
        all_goals first | (dsimp only; exact (show L b = L b from rfl)) | exact (show L b = L b from rfl)
      · rw [if_neg h]
        by_cases h : (Int32.ofInt 100) < v2
        · rw [if_pos h]
          all_goals first | (dsimp only; exact (show L b = L b from rfl)) | exact (show L b = L b from rfl)
        · rw [if_neg h]
          by_cases h : ((J (p 31) 2) + v2) ≤ (Int32.ofInt 200)
          · rw [if_pos h]
            exact (x110_48_frL _ _ _ _ n0 n1 n2).trans (rfl)
          · rw [if_neg h]
            all_goals first | (dsimp only; exact (show L b = L b from rfl)) | exact (show L b = L b from rfl)
/-! .days -/
def x110N_48 (p : Nat → Nat) (v1 : Int32) (v2 : Int32) : Nat → Int32 → (Nat → Nat → Int32) → Int32 × (Nat → Nat → Int32)
  | 0, v3, J => (J (p 31) 2, J)
  | c + 1, v3, J => if v2 ≤ v3 then (J (p 31) 2, J)
    else (x110N_48 p v1 v2 c (v3 + (Int32.ofInt 1)) (x1N p (fun i => p (31 + i)) J))
theorem xt110N_48 {X : nt_X} {d : Nat} {M : nt_M} {o : Option Value × nt_M} {p : Nat → Nat} {v1 : Int32} {v2 : Int32} (hp : xs_P M p) (hn : xs_Q M (fun i => p (31 + i))) (h0 : v1 < 0) : ∀ (c : Nat) (v3 : Int32) (J : Nat → Nat → Int32), v2.toInt - v3.toInt ≤ c → nt_rn X d 110 (48, [(0, .ref (p 16)), (1, .int v1), (2, .int v2), (3, .int v3)], [], me_w M J) o → o = (some (.int ((x110N_48 p v1 v2 c v3 J).1)), me_w M ((x110N_48 p v1 v2 c v3 J).2)) := by
  intro c
  induction c with
  | zero =>
    intro v3 J hc k
    have k := ly_revb 3 (c' := (if v2 ≤ v3 then 75 else 53, [(0, .ref (p 16)), (1, .int v1), (2, .int v2), (3, .int v3)], [], me_w M J)) rfl k
    have h50 : v2 ≤ v3 := lx_end hc
    rw [if_pos h50] at k
    have k := ly_revb 1 (c' := (76, [(0, .ref (p 16)), (1, .int v1), (2, .int v2), (3, .int v3)], [.ref (p 16)], me_w M J)) rfl k
    have k := lz_get (a := (p 16)) (g := 1007) (M := me_w M J) (v := .ref (p 31)) rfl (nt_gfR rfl (hp.1 (16, 7, 31) (by decide))) k
    have k := lz_get (a := (p 31)) (g := 602) (M := me_w M J) (v := .int (J (p 31) 2)) rfl (congrArg Value.int (rfl)) k
    have k := lz_ri rfl (by decide) k
    rw [k, x110N_48]
  | succ c ih =>
    intro v3 J hc k
    have k := ly_revb 3 (c' := (if v2 ≤ v3 then 75 else 53, [(0, .ref (p 16)), (1, .int v1), (2, .int v2), (3, .int v3)], [], me_w M J)) rfl k
    by_cases h50 : v2 ≤ v3
    · rw [if_pos h50] at k
      have k := ly_revb 1 (c' := (76, [(0, .ref (p 16)), (1, .int v1), (2, .int v2), (3, .int v3)], [.ref (p 16)], me_w M J)) rfl k
      have k := lz_get (a := (p 16)) (g := 1007) (M := me_w M J) (v := .ref (p 31)) rfl (nt_gfR rfl (hp.1 (16, 7, 31) (by decide))) k
      have k := lz_get (a := (p 31)) (g := 602) (M := me_w M J) (v := .int (J (p 31) 2)) rfl (congrArg Value.int (rfl)) k
      have k := lz_ri rfl (by decide) k
      rw [k, x110N_48, if_pos h50]
    · rw [if_neg h50] at k
      have k := ly_revb 1 (c' := (54, [(0, .ref (p 16)), (1, .int v1), (2, .int v2), (3, .int v3)], [.ref (p 16)], me_w M J)) rfl k
      have k := lz_get (a := (p 16)) (g := 1005) (M := me_w M J) (v := .ref (p 24)) rfl (nt_gfR rfl (hp.1 (16, 5, 24) (by decide))) k
      have k := ly_revb 1 (c' := (58, [(0, .ref (p 16)), (1, .int v1), (2, .int v2), (3, .int v3)], [.ref (p 16), .ref (p 24)], me_w M J)) rfl k
      have k := lz_get (a := (p 16)) (g := 1007) (M := me_w M J) (v := .ref (p 31)) rfl (nt_gfR rfl (hp.1 (16, 7, 31) (by decide))) k
      have k := ly_revb 2 (c' := (63, [(0, .ref (p 16)), (1, .int v1), (2, .int v2), (3, .int v3)], [.int v1, .ref (p 16), .ref (p 31), .ref (p 24)], me_w M J)) rfl k
      obtain ⟨d1, o1, ed, kc, k⟩ := lz_c (g := 112) (q := 1) (vs := [.ref (p 16), .int v1]) (rest := [.ref (p 31), .ref (p 24)]) rfl rfl (by decide) (Or.inr (Or.inl ⟨_, rfl, rfl⟩)) rfl k
      have e1 := xr112N h0 kc
      subst e1
      have k : nt_rn X _ 110 (66, [(0, .ref (p 16)), (1, .int v1), (2, .int v2), (3, .int v3)], [.null, .ref (p 31), .ref (p 24)], me_w M J) _ := k
      obtain ⟨d1, o1, ed, kc, k⟩ := lz_c (g := 1) (q := 1) (vs := [.ref (p 24), .ref (p 31), .null]) (rest := []) rfl rfl (by decide) (Or.inr (Or.inl ⟨_, rfl, rfl⟩)) rfl k
      have e1 := xt1N hp hn (xs_x31 hp) kc
      subst e1
      have k : nt_rn X _ 110 (69, [(0, .ref (p 16)), (1, .int v1), (2, .int v2), (3, .int v3)], [], me_w M (x1N p (fun i => p (31 + i)) J)) _ := k
      have k := ly_revb 2 (c' := (48, [(3, .int (v3 + (Int32.ofInt 1))), (0, .ref (p 16)), (1, .int v1), (2, .int v2)], [], me_w M (x1N p (fun i => p (31 + i)) J))) rfl k
      have k := nt_rn_w (a := [(3, .int (v3 + (Int32.ofInt 1))), (0, .ref (p 16)), (1, .int v1), (2, .int v2)]) (b := [(0, .ref (p 16)), (1, .int v1), (2, .int v2), (3, .int (v3 + (Int32.ofInt 1)))]) ⟨rfl, rfl, rfl, rfl, trivial⟩ rfl k
      have k := ih (v3 + (Int32.ofInt 1)) (x1N p (fun i => p (31 + i)) J) (lx_dec h50 hc) k
      rw [k, x110N_48, if_neg h50]
theorem x110N_48_rule {p : Nat → Nat} {v1 : Int32} {v2 : Int32} {I : Nat → Int32 → (Nat → Nat → Int32) → Prop} {Q : Int32 × (Nat → Nat → Int32) → Prop} (h0 : ∀ (v3 : Int32) (J : Nat → Nat → Int32), I 0 v3 J → Q (J (p 31) 2, J)) (h1 : ∀ (c : Nat) (v3 : Int32) (J : Nat → Nat → Int32), I (c + 1) v3 J →
    if v2 ≤ v3 then (Q (J (p 31) 2, J))
    else (I c (v3 + (Int32.ofInt 1)) (x1N p (fun i => p (31 + i)) J))) : ∀ (c : Nat) (v3 : Int32) (J : Nat → Nat → Int32), I c v3 J → Q (x110N_48 p v1 v2 c v3 J) := by
  intro c
  induction c with
  | zero =>
    intro v3 J hi
    rw [x110N_48]
    exact h0 v3 J hi
  | succ c ih =>
    intro v3 J hi
    have hi := h1 c v3 J hi
    rw [x110N_48]
    by_cases h : v2 ≤ v3
    · rw [if_pos h] at hi ⊢
      exact hi
    · rw [if_neg h] at hi ⊢
      exact ih _ _ hi
def x110N (p : Nat → Nat) (v1 : Int32) (v2 : Int32) (J : Nat → Nat → Int32) : Int32 × (Nat → Nat → Int32) := if (J (p 31) 1) = 0 then (Int32.ofInt (-1), J)
  else if (x111 p v1 J) = 0 then (Int32.ofInt (-1), J)
    else if v2 < (Int32.ofInt 1) then (Int32.ofInt (-1), J)
      else if (Int32.ofInt 100) < v2 then (Int32.ofInt (-1), J)
        else if ((J (p 31) 2) + v2) ≤ (Int32.ofInt 200) then (x110N_48 p v1 v2 v2.toNatClampNeg (Int32.ofInt 0) J)
          else (Int32.ofInt (-1), J)
theorem xt110N {X : nt_X} {d : Nat} {M : nt_M} {o : Option Value × nt_M} {p : Nat → Nat} {v1 : Int32} {v2 : Int32} {J : Nat → Nat → Int32} (hp : xs_P M p) (hn : xs_Q M (fun i => p (31 + i))) (h0 : v1 < 0) (k : nt_ev X d 110 [.ref (p 16), .int v1, .int v2] (me_w M J) o) : o = (some (.int ((x110N p v1 v2 J).1)), me_w M ((x110N p v1 v2 J).2)) := by
  have k : nt_rn X d 110 (0, [(0, .ref (p 16)), (1, .int v1), (2, .int v2)], [], me_w M J) o := k
  have k := ly_revb 1 (c' := (1, [(0, .ref (p 16)), (1, .int v1), (2, .int v2)], [.ref (p 16)], me_w M J)) rfl k
  have k := lz_get (a := (p 16)) (g := 1007) (M := me_w M J) (v := .ref (p 31)) rfl (nt_gfR rfl (hp.1 (16, 7, 31) (by decide))) k
  have k := lz_get (a := (p 31)) (g := 601) (M := me_w M J) (v := .int (J (p 31) 1)) rfl (congrArg Value.int (rfl)) k
  have k := ly_revb 1 (c' := (if (J (p 31) 1) = 0 then 44 else 10, [(0, .ref (p 16)), (1, .int v1), (2, .int v2)], [], me_w M J)) rfl k
  by_cases h7 : (J (p 31) 1) = 0
  · rw [if_pos h7] at k
    have k := ly_revb 1 (c' := (45, [(0, .ref (p 16)), (1, .int v1), (2, .int v2)], [.int (Int32.ofInt (-1))], me_w M J)) rfl k
    have k := lz_ri rfl (by decide) k
    rw [k, x110N, if_pos h7]
  · rw [if_neg h7] at k
    have k := ly_revb 2 (c' := (12, [(0, .ref (p 16)), (1, .int v1), (2, .int v2)], [.int v1, .ref (p 16)], me_w M J)) rfl k
    obtain ⟨d1, o1, ed, kc, k⟩ := lz_c (g := 111) (q := 1) (vs := [.ref (p 16), .int v1]) (rest := []) rfl rfl (by decide) (Or.inr (Or.inl ⟨_, rfl, rfl⟩)) rfl k
    have e1 := xt111 hp kc
    subst e1
    have k : nt_rn X _ 110 (15, [(0, .ref (p 16)), (1, .int v1), (2, .int v2)], [.int (x111 p v1 J)], me_w M J) _ := k
    have k := ly_revb 1 (c' := (if (x111 p v1 J) = 0 then 44 else 18, [(0, .ref (p 16)), (1, .int v1), (2, .int v2)], [], me_w M J)) rfl k
    by_cases h15 : (x111 p v1 J) = 0
    · rw [if_pos h15] at k
      have k := ly_revb 1 (c' := (45, [(0, .ref (p 16)), (1, .int v1), (2, .int v2)], [.int (Int32.ofInt (-1))], me_w M J)) rfl k
      have k := lz_ri rfl (by decide) k
      rw [k, x110N, if_neg h7, if_pos h15]
    · rw [if_neg h15] at k
      have k := ly_revb 3 (c' := (if v2 < (Int32.ofInt 1) then 44 else 23, [(0, .ref (p 16)), (1, .int v1), (2, .int v2)], [], me_w M J)) rfl k
      by_cases h20 : v2 < (Int32.ofInt 1)
      · rw [if_pos h20] at k
        have k := ly_revb 1 (c' := (45, [(0, .ref (p 16)), (1, .int v1), (2, .int v2)], [.int (Int32.ofInt (-1))], me_w M J)) rfl k
        have k := lz_ri rfl (by decide) k
        rw [k, x110N, if_neg h7, if_neg h15, if_pos h20]
      · rw [if_neg h20] at k
        have k := ly_revb 3 (c' := (if (Int32.ofInt 100) < v2 then 44 else 29, [(0, .ref (p 16)), (1, .int v1), (2, .int v2)], [], me_w M J)) rfl k
        by_cases h26 : (Int32.ofInt 100) < v2
        · rw [if_pos h26] at k
          have k := ly_revb 1 (c' := (45, [(0, .ref (p 16)), (1, .int v1), (2, .int v2)], [.int (Int32.ofInt (-1))], me_w M J)) rfl k
          have k := lz_ri rfl (by decide) k
          rw [k, x110N, if_neg h7, if_neg h15, if_neg h20, if_pos h26]
        · rw [if_neg h26] at k
          have k := ly_revb 1 (c' := (30, [(0, .ref (p 16)), (1, .int v1), (2, .int v2)], [.ref (p 16)], me_w M J)) rfl k
          have k := lz_get (a := (p 16)) (g := 1007) (M := me_w M J) (v := .ref (p 31)) rfl (nt_gfR rfl (hp.1 (16, 7, 31) (by decide))) k
          have k := lz_get (a := (p 31)) (g := 602) (M := me_w M J) (v := .int (J (p 31) 2)) rfl (congrArg Value.int (rfl)) k
          have k := ly_revb 4 (c' := (if ((J (p 31) 2) + v2) ≤ (Int32.ofInt 200) then 46 else 44, [(0, .ref (p 16)), (1, .int v1), (2, .int v2)], [], me_w M J)) rfl k
          by_cases h41 : ((J (p 31) 2) + v2) ≤ (Int32.ofInt 200)
          · rw [if_pos h41] at k
            have k := ly_revb 2 (c' := (48, [(3, .int (Int32.ofInt 0)), (0, .ref (p 16)), (1, .int v1), (2, .int v2)], [], me_w M J)) rfl k
            have k := nt_rn_w (a := [(3, .int (Int32.ofInt 0)), (0, .ref (p 16)), (1, .int v1), (2, .int v2)]) (b := [(0, .ref (p 16)), (1, .int v1), (2, .int v2), (3, .int (Int32.ofInt 0))]) ⟨rfl, rfl, rfl, rfl, trivial⟩ rfl k
            have k := xt110N_48 hp hn h0  v2.toNatClampNeg (Int32.ofInt 0) J (lx_beg (by decide)) k
            rw [k, x110N, if_neg h7, if_neg h15, if_neg h20, if_neg h26, if_pos h41]
          · rw [if_neg h41] at k
            have k := ly_revb 1 (c' := (45, [(0, .ref (p 16)), (1, .int v1), (2, .int v2)], [.int (Int32.ofInt (-1))], me_w M J)) rfl k
            have k := lz_ri rfl (by decide) k
            rw [k, x110N, if_neg h7, if_neg h15, if_neg h20, if_neg h26, if_neg h41]
theorem x110N_48_frJ {p : Nat → Nat} {v1 : Int32} {v2 : Int32} {b : Nat} : ∀ (c : Nat) (v3 : Int32) (J : Nat → Nat → Int32), b ≠ p 31 → b ≠ p 41 → b ≠ p 42 → b ≠ p 43 → b ≠ p 44 → b ≠ p 46 → b ≠ p 47 → (x110N_48 p v1 v2 c v3 J).2 b = J b := by
  intro c
  induction c with
  | zero =>
    intro v3 J n0 n1 n2 n3 n4 n5 n6
    rw [x110N_48]
    all_goals first | (dsimp only; exact (show J b = J b from rfl)) | exact (show J b = J b from rfl)
  | succ c ih =>
    intro v3 J n0 n1 n2 n3 n4 n5 n6
    rw [x110N_48]
    by_cases h : v2 ≤ v3
    · rw [if_pos h]
      all_goals first | (dsimp only; exact (show J b = J b from rfl)) | exact (show J b = J b from rfl)
    · rw [if_neg h]
      exact (ih _ _ n0 n1 n2 n3 n4 n5 n6).trans (x1N_frJ  n0 n1 n2 n3 n4 n5 n6)
theorem x110N_frJ {p : Nat → Nat} {v1 : Int32} {v2 : Int32} {J : Nat → Nat → Int32} {b : Nat} (n0 : b ≠ p 31) (n1 : b ≠ p 41) (n2 : b ≠ p 42) (n3 : b ≠ p 43) (n4 : b ≠ p 44) (n5 : b ≠ p 46) (n6 : b ≠ p 47) : (x110N p v1 v2 J).2 b = J b := by
  unfold x110N
  by_cases h : (J (p 31) 1) = 0
  · rw [if_pos h]
    all_goals first | (dsimp only; exact (show J b = J b from rfl)) | exact (show J b = J b from rfl)
  · rw [if_neg h]
    by_cases h : (x111 p v1 J) = 0
    · rw [if_pos h]
      all_goals first | (dsimp only; exact (show J b = J b from rfl)) | exact (show J b = J b from rfl)
    · rw [if_neg h]
      by_cases h : v2 < (Int32.ofInt 1)
      · rw [if_pos h]
        all_goals first | (dsimp only; exact (show J b = J b from rfl)) | exact (show J b = J b from rfl)
      · rw [if_neg h]
        by_cases h : (Int32.ofInt 100) < v2
        · rw [if_pos h]
          all_goals first | (dsimp only; exact (show J b = J b from rfl)) | exact (show J b = J b from rfl)
        · rw [if_neg h]
          by_cases h : ((J (p 31) 2) + v2) ≤ (Int32.ofInt 200)
          · rw [if_pos h]
            exact (x110N_48_frJ _ _ _ n0 n1 n2 n3 n4 n5 n6).trans (rfl)
          · rw [if_neg h]
            all_goals first | (dsimp only; exact (show J b = J b from rfl)) | exact (show J b = J b from rfl)
