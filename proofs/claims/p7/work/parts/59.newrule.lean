/-! the class: a rule is read and made -/
theorem ly_B_wI {pl : Nat → Nat} {v v' : Nat → Int} {M : nt_M} {g j : Nat} {x : Int32} {q : Nat × Int × Int × Nat} (hB : ly_B pl v M) (hq : ly_D[g]? = some q) (h123 : g ≠ 1 ∧ g ≠ 2 ∧ g ≠ 3) (hb : (sx_iv (sx_tbs.getD q.2.2.2 []) j).1 ≤ x.toInt ∧ x.toInt ≤ (sx_iv (sx_tbs.getD q.2.2.2 []) j).2) (hv : ∀ c ∈ ly_C, (c.1.1 = g ∧ c.1.2 = ((j : Int), []) → sx_e v' c.2 = x.toInt) ∧ (¬ (c.1.1 = g ∧ c.1.2 = ((j : Int), [])) → sx_e v' c.2 = sx_e v c.2)) : ly_B pl v' (nt_sI M (pl g) j x) := by
  have hg : g < 66 := (List.getElem?_eq_some_iff.mp hq).1
  obtain ⟨b1, b2, b3, b4⟩ := hB
  have row : ∀ h, h < 66 → ∀ i, nt_I (nt_sI M (pl g) j x) (pl h) i = if h = g ∧ i = j then x else nt_I M (pl h) i := by
    intro h hh i
    show (if pl h = pl g then (if i = j then x else nt_I M (pl h) i) else nt_I M (pl h) i) = _
    by_cases e : h = g
    · rw [if_pos (by rw [e])]
      by_cases e2 : i = j
      · rw [if_pos e2, if_pos ⟨e, e2⟩]
      · rw [if_neg e2, if_neg (fun z => e2 z.2)]
    · rw [if_neg (fun z => e (b1 h g hh hg z)), if_neg (fun z => e z.1)]
  refine ⟨b1, ⟨b2.1, fun h p hp => ?_⟩, fun c hc => ?_, fun c hc => ?_⟩
  · have hh : h < 66 := (List.getElem?_eq_some_iff.mp hp).1
    have k := b2.2 h p hp
    refine ⟨k.1, k.2.1, k.2.2.1, k.2.2.2.1, fun i => ?_⟩
    rw [row h hh i]
    by_cases e : h = g ∧ i = j
    · rw [if_pos e]
      have hp2 : ly_D[h]? = some p := hp
      rw [e.1, hq] at hp2
      cases hp2
      rw [e.2]
      exact hb
    · rw [if_neg e]
      exact k.2.2.2.2 i
  · have h := b3 c hc
    refine ⟨h.1, ?_⟩
    have hq2 := List.all_eq_true.mp (show ly_C.all (fun q => Nat.blt q.1.1 66 && (sx_lw 0 q.1.2 && decide (0 ≤ q.1.2.1)) || Nat.beq q.1.1 100) = true from by decide +kernel) c hc
    rw [Bool.or_eq_true, Bool.and_eq_true, Bool.and_eq_true] at hq2
    have hvc := hv c hc
    rcases hq2 with ⟨k, c1, c2⟩ | c2
    · have k := Nat.blt_eq.mp k
      have c2 := of_decide_eq_true c2
      have hc1 : c.1.2 = (c.1.2.1, []) := by
        obtain ⟨⟨a, m, l⟩, w⟩ := c
        cases l with
        | nil => rfl
        | cons y t =>
          unfold sx_lw at c1
          rw [List.all_cons, Bool.and_eq_true] at c1
          have := Nat.blt_eq.mp c1.1
          omega
      have h2 := h.2
      rw [ly_lw0 c1] at h2 ⊢
      unfold sx_rd at h2 ⊢
      dsimp only at h2 ⊢
      rw [if_neg (show ¬ 100 ≤ c.1.1 by omega), if_neg (by omega)] at h2 ⊢
      rw [row _ k]
      by_cases e : c.1.1 = g ∧ c.1.2.1.toNat = j
      · rw [if_pos e]
        exact (hvc.1 ⟨e.1, by rw [hc1]; have := e.2; rw [show c.1.2.1 = (j : Int) from by omega]⟩).symm
      · rw [if_neg e, hvc.2 (fun z => e ⟨z.1, by rw [z.2]; omega⟩)]
        exact h2
    · have e100 := Nat.eq_of_beq_eq_true c2
      rw [hvc.2 (fun z => by omega), ← h.2]
      have l0 : sx_lw 0 c.1.2 = true := List.all_eq_true.mp (show ly_C.all (fun q => sx_lw 0 q.1.2) = true from by decide +kernel) c hc
      rw [ly_lw0 l0, ly_lw0 l0]
      unfold sx_rd
      dsimp only
      rw [e100, if_pos (by decide), if_pos (by decide)]
      refine ly_ghp (fun h hh i => ?_)
      rw [row h (by omega) i, if_neg (fun z => by omega)]
  · exact ly_or (E := ly_E) (E' := ly_E) (M := M) (Nat.le_refl _) (by decide +kernel) b4 c hc
theorem ly_copyOf {X : nt_X} {d n S sz : Nat} {M : nt_M} (hn : nt_n M = n) (hb : n < 2000) (hS : S < n) (kS : nt_k M S = 13) (lS : nt_l M S = 400) (h4 : sz < 400) : ∃ f : Nat → Int32, (∀ j, j < sz → f j = nt_I M S j) ∧ nt_ev X (d + 1) 237 [.ref S, .int (nI sz)] M (some (.ref n), nt_wI (nt_nw M 13 sz sz) n f) := by
  refine ⟨va_cpy (nt_I (nt_nw M 13 sz sz) S) (nt_I (nt_nw M 13 sz sz) n) 0 0 sz, fun j hj => ?_, ?_⟩
  · unfold va_cpy
    rw [if_pos (by omega)]
    show (if S = nt_n M then (fun _ => 0) else nt_I M S) _ = _
    rw [if_neg (by omega)]
    congr 1
    omega
  have hsp : nt_n M ≤ nt_sp := by show nt_n M ≤ 3000; omega
  have kS2 : nt_k (nt_nw M 13 sz sz) S = 13 := by
    show (if S = nt_n M then 13 else nt_k M S) = 13
    rw [if_neg (by omega)]; exact kS
  have lS2 : nt_l (nt_nw M 13 sz sz) S = 400 := by
    show (if S = nt_n M then sz else nt_l M S) = 400
    rw [if_neg (by omega)]; exact lS
  have kn2 : nt_k (nt_nw M 13 sz sz) n = 13 := by
    show (if n = nt_n M then 13 else nt_k M n) = 13
    rw [if_pos hn.symm]
  have ln2 : nt_l (nt_nw M 13 sz sz) n = sz := by
    show (if n = nt_n M then sz else nt_l M n) = sz
    rw [if_pos hn.symm]
  have n2 : nt_n (nt_nw M 13 sz sz) = n + 1 := by show nt_n M + 1 = n + 1; omega
  refine nt_rn_b 2 (c' := (2, [(0, .ref S), (1, .int (nI sz))], [.ref S, .int (nI sz)], M)) rfl ?_
  refine nt_rn_s (c' := (3, [(0, .ref S), (1, .int (nI sz))], [.int (nI (nt_l M S)), .int (nI sz)], M)) (e := (2, .arraylength, 0, 0)) rfl rfl (nt_x_len (show S < nt_n M by omega) hsp (show 12 ≤ nt_k M S by omega) (show nt_k M S < 18 by omega)) ?_
  rw [lS]
  refine nt_rn_b 1 (c' := (if nI sz = nI 400 then 6 else 14, [(0, .ref S), (1, .int (nI sz))], [], M)) rfl ?_
  rw [if_neg (fun e => by rw [nI_eq (by omega) (by omega)] at e; omega)]
  refine nt_rn_b 1 (c' := (15, [(0, .ref S), (1, .int (nI sz))], [.int (nI sz)], M)) rfl ?_
  refine nt_rn_s (c' := (17, [(0, .ref S), (1, .int (nI sz))], [.ref n], nt_nw M 13 sz sz)) (e := (15, .newarray .int, 0, 0)) rfl rfl (ly_x_arr (c := n) (k := sz) hn (by show n < 3000; omega) (by decide) (nI_pos (by omega)) ⟨nI_clamp (by omega), by show sz ≤ 3000; omega⟩) ?_
  refine nt_rn_b 6 (c' := (23, [(2, .ref n), (0, .ref S), (1, .int (nI sz))], [.ref S, .int (Int32.ofInt 0), .ref n, .int (Int32.ofInt 0), .ref S], nt_nw M 13 sz sz)) rfl ?_
  refine nt_rn_s (c' := (24, [(2, .ref n), (0, .ref S), (1, .int (nI sz))], [.int (nI (nt_l (nt_nw M 13 sz sz) S)), .int (Int32.ofInt 0), .ref n, .int (Int32.ofInt 0), .ref S], nt_nw M 13 sz sz)) (e := (23, .arraylength, 0, 0)) rfl rfl (nt_x_len (by show S < nt_n (nt_nw M 13 sz sz); omega) (by show nt_n (nt_nw M 13 sz sz) ≤ 3000; omega) (by show 12 ≤ nt_k (nt_nw M 13 sz sz) S; omega) (by show nt_k (nt_nw M 13 sz sz) S < 18; omega)) ?_
  rw [lS2]
  refine nt_rn_b 1 (c' := (25, [(2, .ref n), (0, .ref S), (1, .int (nI sz))], [.int (nI sz), .int (nI 400), .int (Int32.ofInt 0), .ref n, .int (Int32.ofInt 0), .ref S], nt_nw M 13 sz sz)) rfl ?_
  refine nt_rn_n (g := 1003) (q := 0) (c' := (28, [(2, .ref n), (0, .ref S), (1, .int (nI sz))], [.int (nI sz), .int (Int32.ofInt 0), .ref n, .int (Int32.ofInt 0), .ref S], nt_nw M 13 sz sz)) (e := (25, .invokestatic 304, 1003, 0)) rfl rfl (by decide) (Or.inl ⟨_, rfl, rfl⟩) ?_ ?_
  · show (if 1 ≤ d + 1 ∧ nt_ct [Value.int (Int32.ofInt 0), Value.ref n, Value.int (Int32.ofInt 0), Value.ref S] ≤ 8 then some ((28, ([(2, Value.ref n), (0, Value.ref S), (1, Value.int (nI sz))], Value.int (if nI sz < nI 400 then nI sz else nI 400) :: [Value.int (Int32.ofInt 0), Value.ref n, Value.int (Int32.ofInt 0), Value.ref S], nt_nw M 13 sz sz)) : nt_C) else none) = _
    rw [if_pos ⟨by omega, Nat.le_of_ble_eq_true rfl⟩, if_pos (nI_lt h4 (by omega))]
  refine nt_rn_n (g := 1001) (q := 0) (c' := (31, [(2, .ref n), (0, .ref S), (1, .int (nI sz))], [], nt_wI (nt_nw M 13 sz sz) n (va_cpy (nt_I (nt_nw M 13 sz sz) S) (nt_I (nt_nw M 13 sz sz) n) 0 0 sz))) (e := (28, .invokestatic 150, 1001, 0)) rfl rfl (by decide) (Or.inl ⟨_, rfl, rfl⟩) ?_ ?_
  · have ec : (nI sz).toNatClampNeg = sz := nI_clamp (by omega)
    have e0 : (Int32.ofInt 0).toNatClampNeg = 0 := rfl
    show (if 1 ≤ d + 1 ∧ nt_ct [] ≤ 8 ∧ S < nt_n (nt_nw M 13 sz sz) ∧ n < nt_n (nt_nw M 13 sz sz) ∧ nt_k (nt_nw M 13 sz sz) S = nt_k (nt_nw M 13 sz sz) n ∧ (nt_k (nt_nw M 13 sz sz) S = 13 ∨ nt_k (nt_nw M 13 sz sz) S = 15) ∧ ¬ Int32.ofInt 0 < 0 ∧ ¬ Int32.ofInt 0 < 0 ∧ ¬ nI sz < 0 ∧ (Int32.ofInt 0).toNatClampNeg + (nI sz).toNatClampNeg ≤ nt_l (nt_nw M 13 sz sz) S ∧ (Int32.ofInt 0).toNatClampNeg + (nI sz).toNatClampNeg ≤ nt_l (nt_nw M 13 sz sz) n then some (31, [(2, Value.ref n), (0, .ref S), (1, .int (nI sz))], [], nt_wI (nt_nw M 13 sz sz) n (va_cpy (nt_I (nt_nw M 13 sz sz) S) (nt_I (nt_nw M 13 sz sz) n) (Int32.ofInt 0).toNatClampNeg (Int32.ofInt 0).toNatClampNeg (nI sz).toNatClampNeg)) else none) = _
    rw [ec, e0, if_pos ⟨by omega, by decide, by omega, by omega, by rw [kS2, kn2], Or.inl kS2, by decide, by decide, nI_pos (by omega), by rw [lS2]; omega, by rw [ln2]; omega⟩]
  refine nt_rn_b 1 (c' := (32, [(2, .ref n), (0, .ref S), (1, .int (nI sz))], [.ref n], nt_wI (nt_nw M 13 sz sz) n (va_cpy (nt_I (nt_nw M 13 sz sz) S) (nt_I (nt_nw M 13 sz sz) n) 0 0 sz))) rfl ?_
  exact nt_rn_r (e := (32, .areturn, 0, 0)) rfl (Or.inr (Or.inr (Or.inl rfl))) rfl
/-- the rule that was read -/
theorem ly_made {X : nt_X} {d n R S sz : Nat} {M : nt_M} (hn : nt_n M = n) (hb : n < 1000) (hR : R < n) (kR : nt_k M R = 5) (hS : S < n) (kS : nt_k M S = 13) (lS : nt_l M S = 400) (rS : nt_R M R 1 = some S) (hz : nt_I M R 2 = nI sz) (h4 : sz < 400) : ∃ M' : nt_M, nt_ev X (d + 2) 62 [.ref R] M (some (.ref n), M') ∧ nt_n M' = n + 2 ∧ nt_z M' = nt_z M + 1 + sz ∧ (∀ p, p < n → nt_k M' p = nt_k M p ∧ nt_l M' p = nt_l M p ∧ nt_I M' p = nt_I M p ∧ nt_R M' p = nt_R M p) ∧ (nt_k M' n = 4 ∧ nt_l M' n = 0) ∧ (nt_k M' (n + 1) = 13 ∧ nt_l M' (n + 1) = sz) ∧ nt_R M' n 0 = some (n + 1) ∧ (∀ j, j < sz → nt_I M' (n + 1) j = nt_I M S j) := by
  obtain ⟨Ma, hMa⟩ : ∃ Ma, Ma = nt_nw M 4 0 (nt_N 4) := ⟨_, rfl⟩
  have na : nt_n Ma = n + 1 := by rw [hMa]; show nt_n M + 1 = n + 1; omega
  have olda : ∀ p, p < n → nt_k Ma p = nt_k M p ∧ nt_l Ma p = nt_l M p ∧ nt_I Ma p = nt_I M p ∧ nt_R Ma p = nt_R M p := by
    intro p hp
    rw [hMa]
    show (if p = nt_n M then 4 else nt_k M p) = _ ∧ (if p = nt_n M then 0 else nt_l M p) = _ ∧ (if p = nt_n M then (fun _ => 0) else nt_I M p) = _ ∧ (if p = nt_n M then (fun _ => none) else nt_R M p) = _
    rw [if_neg (by omega), if_neg (by omega), if_neg (by omega), if_neg (by omega)]
    exact ⟨rfl, rfl, rfl, rfl⟩
  have kna : nt_k Ma n = 4 ∧ nt_l Ma n = 0 := by
    rw [hMa]
    show (if n = nt_n M then 4 else nt_k M n) = 4 ∧ (if n = nt_n M then 0 else nt_l M n) = 0
    rw [if_pos hn.symm, if_pos hn.symm]
    exact ⟨rfl, rfl⟩
  obtain ⟨f, hf, hcp⟩ := ly_copyOf (X := X) (d := d) (n := n + 1) (S := S) (sz := sz) (M := Ma) na (by omega) (by omega) (by rw [(olda S hS).1]; exact kS) (by rw [(olda S hS).2.1]; exact lS) h4
  obtain ⟨Mb, hMb⟩ : ∃ Mb, Mb = nt_wI (nt_nw Ma 13 sz sz) (n + 1) f := ⟨_, rfl⟩
  rw [← hMb] at hcp
  have nb : nt_n Mb = n + 2 := by rw [hMb]; show nt_n Ma + 1 = n + 2; omega
  have oldb : ∀ p, p < n + 1 → nt_k Mb p = nt_k Ma p ∧ nt_l Mb p = nt_l Ma p ∧ nt_I Mb p = nt_I Ma p ∧ nt_R Mb p = nt_R Ma p := by
    intro p hp
    rw [hMb]
    show (if p = nt_n Ma then 13 else nt_k Ma p) = _ ∧ (if p = nt_n Ma then sz else nt_l Ma p) = _ ∧ (if p = n + 1 then f else (if p = nt_n Ma then (fun _ => 0) else nt_I Ma p)) = _ ∧ (if p = nt_n Ma then (fun _ => none) else nt_R Ma p) = _
    rw [if_neg (by omega), if_neg (by omega), if_neg (by omega), if_neg (by omega), if_neg (by omega)]
    exact ⟨rfl, rfl, rfl, rfl⟩
  have knb : nt_k Mb (n + 1) = 13 ∧ nt_l Mb (n + 1) = sz := by
    rw [hMb]
    show (if n + 1 = nt_n Ma then 13 else nt_k Ma (n + 1)) = 13 ∧ (if n + 1 = nt_n Ma then sz else nt_l Ma (n + 1)) = sz
    rw [if_pos na.symm, if_pos na.symm]
    exact ⟨rfl, rfl⟩
  have kb4 : nt_k Mb n = 4 := by rw [(oldb n (by omega)).1]; exact kna.1
  have zb : nt_z Mb = nt_z M + 1 + sz := by
    rw [hMb]
    show nt_z Ma + sz = _
    rw [hMa]
    rfl
  refine ⟨nt_sR Mb n 0 (some (n + 1)), ?_, nb, zb, fun p hp => ?_, ⟨kb4, ?_⟩, knb, ?_, fun j hj => ?_⟩
  · refine nt_rn_s (c' := (3, [(0, .ref R)], [.ref n], Ma)) (e := (0, .new 63, 4, 0)) rfl rfl (by rw [hMa]; exact ly_x_new (c := n) hn (by show n < 3000; omega) (by decide)) ?_
    refine nt_rn_b 2 (c' := (5, [(0, .ref R)], [.ref R, .ref n, .ref n], Ma)) rfl ?_
    refine nt_rn_s (c' := (8, [(0, .ref R)], [.ref S, .ref n, .ref n], Ma)) (e := (5, .getfield 9, 501, 0)) rfl rfl (nt_x_get (c := 5) (v := .ref S) (show R < nt_n Ma by omega) (by rw [(olda R hR).1]; exact kR) rfl (nt_gfR rfl (by rw [(olda R hR).2.2.2]; exact rS))) ?_
    refine nt_rn_b 1 (c' := (9, [(0, .ref R)], [.ref R, .ref S, .ref n, .ref n], Ma)) rfl ?_
    refine nt_rn_s (c' := (12, [(0, .ref R)], [.int (nI sz), .ref S, .ref n, .ref n], Ma)) (e := (9, .getfield 19, 502, 0)) rfl rfl (nt_x_get (c := 5) (v := .int (nI sz)) (show R < nt_n Ma by omega) (by rw [(olda R hR).1]; exact kR) rfl (by show Value.int (nt_I Ma R 2) = _; rw [(olda R hR).2.2.1, hz])) ?_
    refine nt_rn_c (g := 237) (q := 0) (vs := [.ref S, .int (nI sz)]) (rest := [.ref n, .ref n]) (e := (12, .invokestatic 65, 237, 0)) rfl rfl (Or.inl ⟨_, rfl, rfl⟩) rfl (fun h => by cases h) (fun h => by cases h) hcp ?_
    refine nt_rn_c (g := 46) (q := 2) (vs := [.ref n, .ref (n + 1)]) (rest := [.ref n]) (o1 := (none, nt_sR Mb n 0 (some (n + 1)))) (e := (15, .invokespecial 71, 46, 0)) rfl rfl (Or.inr (Or.inr ⟨_, rfl, rfl⟩)) rfl (fun h => by cases h) (fun _ => rfl) ?_ ?_
    · refine nt_rn_b 1 (c' := (1, [(0, .ref n), (1, .ref (n + 1))], [.ref n], Mb)) rfl ?_
      refine nt_rn_n (g := 1000) (q := 2) (c' := (4, [(0, .ref n), (1, .ref (n + 1))], [], Mb)) (e := (1, .invokespecial 1, 1000, 0)) rfl rfl (by decide) (Or.inr (Or.inr ⟨_, rfl, rfl⟩)) (ly_x_obj (by omega) (by decide)) ?_
      refine nt_rn_b 2 (c' := (6, [(0, .ref n), (1, .ref (n + 1))], [.ref (n + 1), .ref n], Mb)) rfl ?_
      refine nt_rn_s (c' := (9, [(0, .ref n), (1, .ref (n + 1))], [], nt_sR Mb n 0 (some (n + 1)))) (e := (6, .putfield 7, 400, 0)) rfl rfl (nt_x_put (c := 4) (M' := nt_sR Mb n 0 (some (n + 1))) (show n < nt_n Mb by omega) kb4 rfl rfl) ?_
      exact nt_rn_rv (e := (9, .return_, 0, 0)) rfl rfl rfl rfl
    · exact nt_rn_r (e := (18, .areturn, 0, 0)) rfl (Or.inr (Or.inr (Or.inl rfl))) rfl
  · have h1 := oldb p (by omega)
    have h2 := olda p hp
    refine ⟨h1.1.trans h2.1, h1.2.1.trans h2.2.1, h1.2.2.1.trans h2.2.2.1, ?_⟩
    funext j
    show (if p = n then (if j = 0 then some (n + 1) else nt_R Mb p j) else nt_R Mb p j) = _
    rw [if_neg (by omega), h1.2.2.2, h2.2.2.2]
  · show nt_l Mb n = 0
    rw [(oldb n (by omega)).2.1]
    exact kna.2
  · show (if n = n then (if 0 = 0 then some (n + 1) else nt_R Mb n 0) else nt_R Mb n 0) = _
    rw [if_pos rfl, if_pos rfl]
  · show nt_I Mb (n + 1) j = _
    rw [hMb]
    show (if n + 1 = n + 1 then f else (if n + 1 = nt_n Ma then (fun _ => 0) else nt_I Ma (n + 1))) j = _
    rw [if_pos rfl, hf j hj, (olda S hS).2.2.1]
