/-! makers: cells made one behind the other -/
def ly_op (n : Nat) (M : nt_M) (o : Nat × Nat × Nat × Nat) : nt_M := match o.1 with
  | 0 => nt_nw M o.2.1 o.2.2.1 o.2.2.2
  | _ => nt_sR M (n + o.2.1) o.2.2.1 (some (n + o.2.2.2))
/-- the last one first -/
def ly_fo (n : Nat) (M : nt_M) : List (Nat × Nat × Nat × Nat) → nt_M
  | [] => M
  | o :: t => ly_op n (ly_fo n M t) o
def ly_cnt : List (Nat × Nat × Nat × Nat) → Nat
  | [] => 0
  | o :: t => match o.1 with
    | 0 => ly_cnt t + 1
    | _ => ly_cnt t
theorem ly_fo_n {n : Nat} {M : nt_M} : ∀ l, nt_n (ly_fo n M l) = nt_n M + ly_cnt l
  | [] => rfl
  | o :: t => by
    have ih := ly_fo_n (n := n) (M := M) t
    obtain ⟨a, o⟩ := o
    cases a with
    | zero => show nt_n (ly_fo n M t) + 1 = nt_n M + (ly_cnt t + 1); omega
    | succ a => exact ih
def ly_kl : List (Nat × Nat × Nat × Nat) → Nat → Option (Nat × Nat)
  | [], _ => none
  | o :: t, i => match o.1 with
    | 0 => if i = ly_cnt t then some (o.2.1, o.2.2.1) else ly_kl t i
    | _ => ly_kl t i
theorem ly_fo_k {n : Nat} {M : nt_M} {i : Nat} {q : Nat × Nat} (hn : nt_n M = n) : ∀ {l}, ly_kl l i = some q → nt_k (ly_fo n M l) (n + i) = q.1 ∧ nt_l (ly_fo n M l) (n + i) = q.2
  | [], h => by cases h
  | o :: t, h => by
    have ih := fun h => ly_fo_k (n := n) (M := M) (i := i) (q := q) hn (l := t) h
    have hc := ly_fo_n (n := n) (M := M) t
    obtain ⟨a, o⟩ := o
    cases a with
    | zero =>
      have h : (if i = ly_cnt t then some (o.1, o.2.1) else ly_kl t i) = some q := h
      show (if n + i = nt_n (ly_fo n M t) then o.1 else nt_k (ly_fo n M t) (n + i)) = q.1 ∧ (if n + i = nt_n (ly_fo n M t) then o.2.1 else nt_l (ly_fo n M t) (n + i)) = q.2
      by_cases e : i = ly_cnt t
      · rw [if_pos e] at h
        cases h
        rw [if_pos (by omega), if_pos (by omega)]
        exact ⟨rfl, rfl⟩
      · rw [if_neg e] at h
        rw [if_neg (by omega), if_neg (by omega)]
        exact ih h
    | succ a => exact ih h
/-- what was there stays -/
theorem ly_fo_old {n : Nat} {M : nt_M} {p : Nat} (hn : nt_n M = n) (hp : p < n) : ∀ l, nt_k (ly_fo n M l) p = nt_k M p ∧ nt_l (ly_fo n M l) p = nt_l M p ∧ nt_I (ly_fo n M l) p = nt_I M p ∧ nt_R (ly_fo n M l) p = nt_R M p
  | [] => ⟨rfl, rfl, rfl, rfl⟩
  | o :: t => by
    have ih := ly_fo_old (n := n) (M := M) (p := p) hn hp t
    have hc := ly_fo_n (n := n) (M := M) t
    obtain ⟨a, o⟩ := o
    cases a with
    | zero =>
      show (if p = nt_n (ly_fo n M t) then o.1 else nt_k (ly_fo n M t) p) = _ ∧ (if p = nt_n (ly_fo n M t) then o.2.1 else nt_l (ly_fo n M t) p) = _ ∧ (if p = nt_n (ly_fo n M t) then (fun _ => 0) else nt_I (ly_fo n M t) p) = _ ∧ (if p = nt_n (ly_fo n M t) then (fun _ => none) else nt_R (ly_fo n M t) p) = _
      rw [if_neg (by omega), if_neg (by omega), if_neg (by omega), if_neg (by omega)]
      exact ih
    | succ a =>
      refine ⟨ih.1, ih.2.1, ih.2.2.1, ?_⟩
      funext j
      show (if p = n + o.1 then (if j = o.2.1 then some (n + o.2.2) else nt_R (ly_fo n M t) p j) else nt_R (ly_fo n M t) p j) = _
      rw [if_neg (by omega), ih.2.2.2]
theorem ly_fo_I {n : Nat} {M : nt_M} {i : Nat} (hn : nt_n M = n) : ∀ l, i < ly_cnt l → ∀ j, nt_I (ly_fo n M l) (n + i) j = 0
  | [], h => absurd h (Nat.not_lt_zero _)
  | o :: t, h => by
    have ih := ly_fo_I (n := n) (M := M) (i := i) hn t
    have hc := ly_fo_n (n := n) (M := M) t
    obtain ⟨a, o⟩ := o
    cases a with
    | zero =>
      have h : i < ly_cnt t + 1 := h
      intro j
      show (if n + i = nt_n (ly_fo n M t) then (fun _ => (0 : Int32)) else nt_I (ly_fo n M t) (n + i)) j = 0
      by_cases e : i = ly_cnt t
      · rw [if_pos (by omega)]
      · rw [if_neg (by omega)]
        exact ih (by omega) j
    | succ a => exact ih h
def ly_rl : List (Nat × Nat × Nat × Nat) → Nat → Nat → Option Nat
  | [], _, _ => none
  | o :: t, i, j => match o.1 with
    | 0 => if i = ly_cnt t then none else ly_rl t i j
    | _ => if i = o.2.1 ∧ j = o.2.2.1 then some o.2.2.2 else ly_rl t i j
theorem ly_fo_R {n : Nat} {M : nt_M} {i : Nat} (hn : nt_n M = n) : ∀ l, i < ly_cnt l → ∀ j, nt_R (ly_fo n M l) (n + i) j = (ly_rl l i j).map (fun b => n + b)
  | [], h => absurd h (Nat.not_lt_zero _)
  | o :: t, h => by
    have ih := ly_fo_R (n := n) (M := M) (i := i) hn t
    have hc := ly_fo_n (n := n) (M := M) t
    obtain ⟨a, o⟩ := o
    intro j
    cases a with
    | zero =>
      have h : i < ly_cnt t + 1 := h
      show (if n + i = nt_n (ly_fo n M t) then (fun _ => (none : Option Nat)) else nt_R (ly_fo n M t) (n + i)) j = (if i = ly_cnt t then none else ly_rl t i j).map _
      by_cases e : i = ly_cnt t
      · rw [if_pos (by omega), if_pos e]
        rfl
      · rw [if_neg (by omega), if_neg e]
        exact ih (by omega) j
    | succ a =>
      show (if n + i = n + o.1 then (if j = o.2.1 then some (n + o.2.2) else nt_R (ly_fo n M t) (n + i) j) else nt_R (ly_fo n M t) (n + i) j) = (if i = o.1 ∧ j = o.2.1 then some o.2.2 else ly_rl t i j).map _
      by_cases e : i = o.1
      · rw [if_pos (by omega)]
        by_cases e2 : j = o.2.1
        · rw [if_pos e2, if_pos ⟨e, e2⟩]
          rfl
        · rw [if_neg e2, if_neg (fun h => e2 h.2)]
          exact ih h j
      · rw [if_neg (by omega), if_neg (fun h => e h.1)]
        exact ih h j
def ly_zs : List (Nat × Nat × Nat × Nat) → Nat
  | [] => 0
  | o :: t => match o.1 with
    | 0 => ly_zs t + o.2.2.2
    | _ => ly_zs t
theorem ly_fo_z {n : Nat} {M : nt_M} : ∀ l, nt_z (ly_fo n M l) = nt_z M + ly_zs l
  | [] => rfl
  | o :: t => by
    have ih := ly_fo_z (n := n) (M := M) t
    obtain ⟨a, o⟩ := o
    cases a with
    | zero => show nt_z (ly_fo n M t) + o.2.2 = nt_z M + (ly_zs t + o.2.2); omega
    | succ a => exact ih
theorem ly_x_new {X : nt_X} {mi g t i pc c : Nat} {ls : nt_V} {st : List Value} {M : nt_M} (hn : nt_n M = c) (hc : c < nt_sp) (hg : g < 12) : nt_sx X mi g t (.new i) pc ls st M = some (pc + 3, ls, .ref c :: st, nt_nw M g 0 (nt_N g)) := by
  show (if g < 12 ∧ nt_n M < nt_sp then some (pc + 3, ls, Value.ref (nt_n M) :: st, nt_nw M g 0 (nt_N g)) else none) = _
  rw [if_pos ⟨hg, by rw [hn]; exact hc⟩, hn]
theorem ly_x_arr {X : nt_X} {mi g t pc c k : Nat} {ty : ArrayType} {ls : nt_V} {st : List Value} {M : nt_M} {x : Int32} (hn : nt_n M = c) (hc : c < nt_sp) (hk : nt_ak ty < 18) (h0 : ¬ x < 0) (hx : x.toNatClampNeg = k ∧ k ≤ nt_sp) : nt_sx X mi g t (.newarray ty) pc ls (.int x :: st) M = some (pc + 2, ls, .ref c :: st, nt_nw M (nt_ak ty) k k) := by
  show (if nt_ak ty < 18 ∧ nt_n M < nt_sp ∧ ¬ x < 0 ∧ x.toNatClampNeg ≤ nt_sp then some (pc + 2, ls, Value.ref (nt_n M) :: st, nt_nw M (nt_ak ty) x.toNatClampNeg x.toNatClampNeg) else none) = _
  rw [if_pos ⟨hk, by rw [hn]; exact hc, h0, by rw [hx.1]; exact hx.2⟩, hn, hx.1]
theorem ly_x_obj {d pc a : Nat} {ls : nt_V} {st : List Value} {M : nt_M} (hd : 1 ≤ d) (hs : nt_ct st ≤ 8) : nt_nx d 1000 2 pc ls (.ref a :: st) M = some (pc + 3, ls, st, M) := by
  unfold nt_nx
  rw [if_pos ⟨rfl, rfl⟩]
  show (if 1 ≤ d ∧ nt_ct st ≤ 8 then some (pc + 3, ls, st, M) else none) = _
  rw [if_pos ⟨hd, hs⟩]
def ly_so : List (Nat × Nat × Nat × Nat) := [(1, 0, 13, 16), (0, 13, 8, 8), (1, 0, 12, 15), (0, 15, 24, 24), (1, 0, 11, 14), (0, 13, 24, 24), (1, 0, 10, 13), (0, 13, 24, 24), (1, 0, 9, 12), (0, 13, 6, 6), (1, 0, 8, 11), (0, 13, 6, 6), (1, 0, 7, 10), (0, 13, 6, 6), (1, 0, 0, 1), (1, 1, 12, 9), (0, 13, 8, 8), (1, 1, 11, 8), (0, 13, 8, 8), (1, 1, 10, 7), (0, 13, 8, 8), (1, 1, 9, 6), (0, 13, 8, 8), (1, 1, 8, 5), (0, 13, 24, 24), (1, 1, 7, 4), (0, 13, 24, 24), (1, 1, 6, 3), (0, 13, 24, 24), (1, 1, 5, 2), (0, 13, 24, 24), (0, 8, 0, 13), (0, 6, 0, 14)]
theorem ly_mk85 {X : nt_X} {d n : Nat} {M : nt_M} (hn : nt_n M = n) (hb : n + 20 < nt_sp) : nt_ev X (d + 1) 85 [.ref (n + 1)] (ly_fo n M (ly_so.drop 31)) (none, (ly_fo n M (ly_so.drop 15))) := by
  refine nt_rn_b 1 (c' := (1, [(0, .ref (n + 1))], [.ref (n + 1)], (ly_fo n M (ly_so.drop 31)))) rfl ?_
  refine nt_rn_n (g := 1000) (q := 2) (c' := (4, [(0, .ref (n + 1))], [], (ly_fo n M (ly_so.drop 31)))) (e := (1, .invokespecial 3, 1000, 0)) rfl rfl (by decide) (Or.inr (Or.inr ⟨_, rfl, rfl⟩)) (ly_x_obj (by omega) (by decide)) ?_
  refine nt_rn_b 1 (c' := (5, [(0, .ref (n + 1))], [.ref (n + 1)], (ly_fo n M (ly_so.drop 31)))) rfl ?_
  refine nt_rn_b 1 (c' := (7, [(0, .ref (n + 1))], [.int (Int32.ofInt 24), .ref (n + 1)], (ly_fo n M (ly_so.drop 31)))) rfl ?_
  refine nt_rn_s (c' := (9, [(0, .ref (n + 1))], [.ref (n + 2), .ref (n + 1)], (ly_fo n M (ly_so.drop 30)))) (e := (7, .newarray .int, 0, 0)) rfl rfl (ly_x_arr (c := n + 2) (k := 24) (by rw [ly_fo_n, hn]; rfl) (by omega) (by decide) (by decide) (by decide)) ?_
  refine nt_rn_s (c' := (12, [(0, .ref (n + 1))], [], (ly_fo n M (ly_so.drop 29)))) (e := (9, .putfield 9, 805, 0)) rfl rfl (nt_x_put (c := 8) (M' := (ly_fo n M (ly_so.drop 29))) (by rw [ly_fo_n, hn]; show n + 1 < n + 3; omega) (ly_fo_k (i := 1) (q := (8, 0)) (l := ly_so.drop 30) hn rfl).1 rfl rfl) ?_
  refine nt_rn_b 1 (c' := (13, [(0, .ref (n + 1))], [.ref (n + 1)], (ly_fo n M (ly_so.drop 29)))) rfl ?_
  refine nt_rn_b 1 (c' := (15, [(0, .ref (n + 1))], [.int (Int32.ofInt 24), .ref (n + 1)], (ly_fo n M (ly_so.drop 29)))) rfl ?_
  refine nt_rn_s (c' := (17, [(0, .ref (n + 1))], [.ref (n + 3), .ref (n + 1)], (ly_fo n M (ly_so.drop 28)))) (e := (15, .newarray .int, 0, 0)) rfl rfl (ly_x_arr (c := n + 3) (k := 24) (by rw [ly_fo_n, hn]; rfl) (by omega) (by decide) (by decide) (by decide)) ?_
  refine nt_rn_s (c' := (20, [(0, .ref (n + 1))], [], (ly_fo n M (ly_so.drop 27)))) (e := (17, .putfield 15, 806, 0)) rfl rfl (nt_x_put (c := 8) (M' := (ly_fo n M (ly_so.drop 27))) (by rw [ly_fo_n, hn]; show n + 1 < n + 4; omega) (ly_fo_k (i := 1) (q := (8, 0)) (l := ly_so.drop 28) hn rfl).1 rfl rfl) ?_
  refine nt_rn_b 1 (c' := (21, [(0, .ref (n + 1))], [.ref (n + 1)], (ly_fo n M (ly_so.drop 27)))) rfl ?_
  refine nt_rn_b 1 (c' := (23, [(0, .ref (n + 1))], [.int (Int32.ofInt 24), .ref (n + 1)], (ly_fo n M (ly_so.drop 27)))) rfl ?_
  refine nt_rn_s (c' := (25, [(0, .ref (n + 1))], [.ref (n + 4), .ref (n + 1)], (ly_fo n M (ly_so.drop 26)))) (e := (23, .newarray .int, 0, 0)) rfl rfl (ly_x_arr (c := n + 4) (k := 24) (by rw [ly_fo_n, hn]; rfl) (by omega) (by decide) (by decide) (by decide)) ?_
  refine nt_rn_s (c' := (28, [(0, .ref (n + 1))], [], (ly_fo n M (ly_so.drop 25)))) (e := (25, .putfield 18, 807, 0)) rfl rfl (nt_x_put (c := 8) (M' := (ly_fo n M (ly_so.drop 25))) (by rw [ly_fo_n, hn]; show n + 1 < n + 5; omega) (ly_fo_k (i := 1) (q := (8, 0)) (l := ly_so.drop 26) hn rfl).1 rfl rfl) ?_
  refine nt_rn_b 1 (c' := (29, [(0, .ref (n + 1))], [.ref (n + 1)], (ly_fo n M (ly_so.drop 25)))) rfl ?_
  refine nt_rn_b 1 (c' := (31, [(0, .ref (n + 1))], [.int (Int32.ofInt 24), .ref (n + 1)], (ly_fo n M (ly_so.drop 25)))) rfl ?_
  refine nt_rn_s (c' := (33, [(0, .ref (n + 1))], [.ref (n + 5), .ref (n + 1)], (ly_fo n M (ly_so.drop 24)))) (e := (31, .newarray .int, 0, 0)) rfl rfl (ly_x_arr (c := n + 5) (k := 24) (by rw [ly_fo_n, hn]; rfl) (by omega) (by decide) (by decide) (by decide)) ?_
  refine nt_rn_s (c' := (36, [(0, .ref (n + 1))], [], (ly_fo n M (ly_so.drop 23)))) (e := (33, .putfield 21, 808, 0)) rfl rfl (nt_x_put (c := 8) (M' := (ly_fo n M (ly_so.drop 23))) (by rw [ly_fo_n, hn]; show n + 1 < n + 6; omega) (ly_fo_k (i := 1) (q := (8, 0)) (l := ly_so.drop 24) hn rfl).1 rfl rfl) ?_
  refine nt_rn_b 1 (c' := (37, [(0, .ref (n + 1))], [.ref (n + 1)], (ly_fo n M (ly_so.drop 23)))) rfl ?_
  refine nt_rn_b 1 (c' := (39, [(0, .ref (n + 1))], [.int (Int32.ofInt 8), .ref (n + 1)], (ly_fo n M (ly_so.drop 23)))) rfl ?_
  refine nt_rn_s (c' := (41, [(0, .ref (n + 1))], [.ref (n + 6), .ref (n + 1)], (ly_fo n M (ly_so.drop 22)))) (e := (39, .newarray .int, 0, 0)) rfl rfl (ly_x_arr (c := n + 6) (k := 8) (by rw [ly_fo_n, hn]; rfl) (by omega) (by decide) (by decide) (by decide)) ?_
  refine nt_rn_s (c' := (44, [(0, .ref (n + 1))], [], (ly_fo n M (ly_so.drop 21)))) (e := (41, .putfield 24, 809, 0)) rfl rfl (nt_x_put (c := 8) (M' := (ly_fo n M (ly_so.drop 21))) (by rw [ly_fo_n, hn]; show n + 1 < n + 7; omega) (ly_fo_k (i := 1) (q := (8, 0)) (l := ly_so.drop 22) hn rfl).1 rfl rfl) ?_
  refine nt_rn_b 1 (c' := (45, [(0, .ref (n + 1))], [.ref (n + 1)], (ly_fo n M (ly_so.drop 21)))) rfl ?_
  refine nt_rn_b 1 (c' := (47, [(0, .ref (n + 1))], [.int (Int32.ofInt 8), .ref (n + 1)], (ly_fo n M (ly_so.drop 21)))) rfl ?_
  refine nt_rn_s (c' := (49, [(0, .ref (n + 1))], [.ref (n + 7), .ref (n + 1)], (ly_fo n M (ly_so.drop 20)))) (e := (47, .newarray .int, 0, 0)) rfl rfl (ly_x_arr (c := n + 7) (k := 8) (by rw [ly_fo_n, hn]; rfl) (by omega) (by decide) (by decide) (by decide)) ?_
  refine nt_rn_s (c' := (52, [(0, .ref (n + 1))], [], (ly_fo n M (ly_so.drop 19)))) (e := (49, .putfield 27, 810, 0)) rfl rfl (nt_x_put (c := 8) (M' := (ly_fo n M (ly_so.drop 19))) (by rw [ly_fo_n, hn]; show n + 1 < n + 8; omega) (ly_fo_k (i := 1) (q := (8, 0)) (l := ly_so.drop 20) hn rfl).1 rfl rfl) ?_
  refine nt_rn_b 1 (c' := (53, [(0, .ref (n + 1))], [.ref (n + 1)], (ly_fo n M (ly_so.drop 19)))) rfl ?_
  refine nt_rn_b 1 (c' := (55, [(0, .ref (n + 1))], [.int (Int32.ofInt 8), .ref (n + 1)], (ly_fo n M (ly_so.drop 19)))) rfl ?_
  refine nt_rn_s (c' := (57, [(0, .ref (n + 1))], [.ref (n + 8), .ref (n + 1)], (ly_fo n M (ly_so.drop 18)))) (e := (55, .newarray .int, 0, 0)) rfl rfl (ly_x_arr (c := n + 8) (k := 8) (by rw [ly_fo_n, hn]; rfl) (by omega) (by decide) (by decide) (by decide)) ?_
  refine nt_rn_s (c' := (60, [(0, .ref (n + 1))], [], (ly_fo n M (ly_so.drop 17)))) (e := (57, .putfield 30, 811, 0)) rfl rfl (nt_x_put (c := 8) (M' := (ly_fo n M (ly_so.drop 17))) (by rw [ly_fo_n, hn]; show n + 1 < n + 9; omega) (ly_fo_k (i := 1) (q := (8, 0)) (l := ly_so.drop 18) hn rfl).1 rfl rfl) ?_
  refine nt_rn_b 1 (c' := (61, [(0, .ref (n + 1))], [.ref (n + 1)], (ly_fo n M (ly_so.drop 17)))) rfl ?_
  refine nt_rn_b 1 (c' := (63, [(0, .ref (n + 1))], [.int (Int32.ofInt 8), .ref (n + 1)], (ly_fo n M (ly_so.drop 17)))) rfl ?_
  refine nt_rn_s (c' := (65, [(0, .ref (n + 1))], [.ref (n + 9), .ref (n + 1)], (ly_fo n M (ly_so.drop 16)))) (e := (63, .newarray .int, 0, 0)) rfl rfl (ly_x_arr (c := n + 9) (k := 8) (by rw [ly_fo_n, hn]; rfl) (by omega) (by decide) (by decide) (by decide)) ?_
  refine nt_rn_s (c' := (68, [(0, .ref (n + 1))], [], (ly_fo n M (ly_so.drop 15)))) (e := (65, .putfield 33, 812, 0)) rfl rfl (nt_x_put (c := 8) (M' := (ly_fo n M (ly_so.drop 15))) (by rw [ly_fo_n, hn]; show n + 1 < n + 10; omega) (ly_fo_k (i := 1) (q := (8, 0)) (l := ly_so.drop 16) hn rfl).1 rfl rfl) ?_
  exact nt_rn_rv (e := (68, .return_, 0, 0)) rfl rfl rfl rfl
theorem ly_mk63 {X : nt_X} {d n : Nat} {M : nt_M} (hn : nt_n M = n) (hb : n + 20 < nt_sp) : nt_ev X (d + 2) 63 [.ref (n + 0)] (ly_fo n M (ly_so.drop 32)) (none, ly_fo n M ly_so) := by
  refine nt_rn_b 1 (c' := (1, [(0, .ref (n + 0))], [.ref (n + 0)], (ly_fo n M (ly_so.drop 32)))) rfl ?_
  refine nt_rn_n (g := 1000) (q := 2) (c' := (4, [(0, .ref (n + 0))], [], (ly_fo n M (ly_so.drop 32)))) (e := (1, .invokespecial 3, 1000, 0)) rfl rfl (by decide) (Or.inr (Or.inr ⟨_, rfl, rfl⟩)) (ly_x_obj (by omega) (by decide)) ?_
  refine nt_rn_b 1 (c' := (5, [(0, .ref (n + 0))], [.ref (n + 0)], (ly_fo n M (ly_so.drop 32)))) rfl ?_
  refine nt_rn_s (c' := (8, [(0, .ref (n + 0))], [.ref (n + 1), .ref (n + 0)], (ly_fo n M (ly_so.drop 31)))) (e := (5, .new 9, 8, 0)) rfl rfl (ly_x_new (c := n + 1) (by rw [ly_fo_n, hn]; rfl) (by omega) (by decide)) ?_
  refine nt_rn_b 1 (c' := (9, [(0, .ref (n + 0))], [.ref (n + 1), .ref (n + 1), .ref (n + 0)], (ly_fo n M (ly_so.drop 31)))) rfl ?_
  refine nt_rn_c (g := 85) (q := 2) (vs := [.ref (n + 1)]) (rest := [.ref (n + 1), .ref (n + 0)]) (e := (9, .invokespecial 11, 85, 0)) rfl rfl (Or.inr (Or.inr ⟨_, rfl, rfl⟩)) rfl (fun h => by cases h) (fun _ => rfl) (ly_mk85 hn hb) ?_
  refine nt_rn_s (c' := (15, [(0, .ref (n + 0))], [], (ly_fo n M (ly_so.drop 14)))) (e := (12, .putfield 12, 600, 0)) rfl rfl (nt_x_put (c := 6) (M' := (ly_fo n M (ly_so.drop 14))) (by rw [ly_fo_n, hn]; show n + 0 < n + 10; omega) (ly_fo_k (i := 0) (q := (6, 0)) (l := ly_so.drop 15) hn rfl).1 rfl rfl) ?_
  refine nt_rn_b 1 (c' := (16, [(0, .ref (n + 0))], [.ref (n + 0)], (ly_fo n M (ly_so.drop 14)))) rfl ?_
  refine nt_rn_b 1 (c' := (18, [(0, .ref (n + 0))], [.int (Int32.ofInt 6), .ref (n + 0)], (ly_fo n M (ly_so.drop 14)))) rfl ?_
  refine nt_rn_s (c' := (20, [(0, .ref (n + 0))], [.ref (n + 10), .ref (n + 0)], (ly_fo n M (ly_so.drop 13)))) (e := (18, .newarray .int, 0, 0)) rfl rfl (ly_x_arr (c := n + 10) (k := 6) (by rw [ly_fo_n, hn]; rfl) (by omega) (by decide) (by decide) (by decide)) ?_
  refine nt_rn_s (c' := (23, [(0, .ref (n + 0))], [], (ly_fo n M (ly_so.drop 12)))) (e := (20, .putfield 18, 607, 0)) rfl rfl (nt_x_put (c := 6) (M' := (ly_fo n M (ly_so.drop 12))) (by rw [ly_fo_n, hn]; show n + 0 < n + 11; omega) (ly_fo_k (i := 0) (q := (6, 0)) (l := ly_so.drop 13) hn rfl).1 rfl rfl) ?_
  refine nt_rn_b 1 (c' := (24, [(0, .ref (n + 0))], [.ref (n + 0)], (ly_fo n M (ly_so.drop 12)))) rfl ?_
  refine nt_rn_b 1 (c' := (26, [(0, .ref (n + 0))], [.int (Int32.ofInt 6), .ref (n + 0)], (ly_fo n M (ly_so.drop 12)))) rfl ?_
  refine nt_rn_s (c' := (28, [(0, .ref (n + 0))], [.ref (n + 11), .ref (n + 0)], (ly_fo n M (ly_so.drop 11)))) (e := (26, .newarray .int, 0, 0)) rfl rfl (ly_x_arr (c := n + 11) (k := 6) (by rw [ly_fo_n, hn]; rfl) (by omega) (by decide) (by decide) (by decide)) ?_
  refine nt_rn_s (c' := (31, [(0, .ref (n + 0))], [], (ly_fo n M (ly_so.drop 10)))) (e := (28, .putfield 22, 608, 0)) rfl rfl (nt_x_put (c := 6) (M' := (ly_fo n M (ly_so.drop 10))) (by rw [ly_fo_n, hn]; show n + 0 < n + 12; omega) (ly_fo_k (i := 0) (q := (6, 0)) (l := ly_so.drop 11) hn rfl).1 rfl rfl) ?_
  refine nt_rn_b 1 (c' := (32, [(0, .ref (n + 0))], [.ref (n + 0)], (ly_fo n M (ly_so.drop 10)))) rfl ?_
  refine nt_rn_b 1 (c' := (34, [(0, .ref (n + 0))], [.int (Int32.ofInt 6), .ref (n + 0)], (ly_fo n M (ly_so.drop 10)))) rfl ?_
  refine nt_rn_s (c' := (36, [(0, .ref (n + 0))], [.ref (n + 12), .ref (n + 0)], (ly_fo n M (ly_so.drop 9)))) (e := (34, .newarray .int, 0, 0)) rfl rfl (ly_x_arr (c := n + 12) (k := 6) (by rw [ly_fo_n, hn]; rfl) (by omega) (by decide) (by decide) (by decide)) ?_
  refine nt_rn_s (c' := (39, [(0, .ref (n + 0))], [], (ly_fo n M (ly_so.drop 8)))) (e := (36, .putfield 25, 609, 0)) rfl rfl (nt_x_put (c := 6) (M' := (ly_fo n M (ly_so.drop 8))) (by rw [ly_fo_n, hn]; show n + 0 < n + 13; omega) (ly_fo_k (i := 0) (q := (6, 0)) (l := ly_so.drop 9) hn rfl).1 rfl rfl) ?_
  refine nt_rn_b 1 (c' := (40, [(0, .ref (n + 0))], [.ref (n + 0)], (ly_fo n M (ly_so.drop 8)))) rfl ?_
  refine nt_rn_b 1 (c' := (42, [(0, .ref (n + 0))], [.int (Int32.ofInt 24), .ref (n + 0)], (ly_fo n M (ly_so.drop 8)))) rfl ?_
  refine nt_rn_s (c' := (44, [(0, .ref (n + 0))], [.ref (n + 13), .ref (n + 0)], (ly_fo n M (ly_so.drop 7)))) (e := (42, .newarray .int, 0, 0)) rfl rfl (ly_x_arr (c := n + 13) (k := 24) (by rw [ly_fo_n, hn]; rfl) (by omega) (by decide) (by decide) (by decide)) ?_
  refine nt_rn_s (c' := (47, [(0, .ref (n + 0))], [], (ly_fo n M (ly_so.drop 6)))) (e := (44, .putfield 28, 610, 0)) rfl rfl (nt_x_put (c := 6) (M' := (ly_fo n M (ly_so.drop 6))) (by rw [ly_fo_n, hn]; show n + 0 < n + 14; omega) (ly_fo_k (i := 0) (q := (6, 0)) (l := ly_so.drop 7) hn rfl).1 rfl rfl) ?_
  refine nt_rn_b 1 (c' := (48, [(0, .ref (n + 0))], [.ref (n + 0)], (ly_fo n M (ly_so.drop 6)))) rfl ?_
  refine nt_rn_b 1 (c' := (50, [(0, .ref (n + 0))], [.int (Int32.ofInt 24), .ref (n + 0)], (ly_fo n M (ly_so.drop 6)))) rfl ?_
  refine nt_rn_s (c' := (52, [(0, .ref (n + 0))], [.ref (n + 14), .ref (n + 0)], (ly_fo n M (ly_so.drop 5)))) (e := (50, .newarray .int, 0, 0)) rfl rfl (ly_x_arr (c := n + 14) (k := 24) (by rw [ly_fo_n, hn]; rfl) (by omega) (by decide) (by decide) (by decide)) ?_
  refine nt_rn_s (c' := (55, [(0, .ref (n + 0))], [], (ly_fo n M (ly_so.drop 4)))) (e := (52, .putfield 31, 611, 0)) rfl rfl (nt_x_put (c := 6) (M' := (ly_fo n M (ly_so.drop 4))) (by rw [ly_fo_n, hn]; show n + 0 < n + 15; omega) (ly_fo_k (i := 0) (q := (6, 0)) (l := ly_so.drop 5) hn rfl).1 rfl rfl) ?_
  refine nt_rn_b 1 (c' := (56, [(0, .ref (n + 0))], [.ref (n + 0)], (ly_fo n M (ly_so.drop 4)))) rfl ?_
  refine nt_rn_b 1 (c' := (58, [(0, .ref (n + 0))], [.int (Int32.ofInt 24), .ref (n + 0)], (ly_fo n M (ly_so.drop 4)))) rfl ?_
  refine nt_rn_s (c' := (60, [(0, .ref (n + 0))], [.ref (n + 15), .ref (n + 0)], (ly_fo n M (ly_so.drop 3)))) (e := (58, .newarray .boolean, 0, 0)) rfl rfl (ly_x_arr (c := n + 15) (k := 24) (by rw [ly_fo_n, hn]; rfl) (by omega) (by decide) (by decide) (by decide)) ?_
  refine nt_rn_s (c' := (63, [(0, .ref (n + 0))], [], (ly_fo n M (ly_so.drop 2)))) (e := (60, .putfield 34, 612, 0)) rfl rfl (nt_x_put (c := 6) (M' := (ly_fo n M (ly_so.drop 2))) (by rw [ly_fo_n, hn]; show n + 0 < n + 16; omega) (ly_fo_k (i := 0) (q := (6, 0)) (l := ly_so.drop 3) hn rfl).1 rfl rfl) ?_
  refine nt_rn_b 1 (c' := (64, [(0, .ref (n + 0))], [.ref (n + 0)], (ly_fo n M (ly_so.drop 2)))) rfl ?_
  refine nt_rn_b 1 (c' := (66, [(0, .ref (n + 0))], [.int (Int32.ofInt 8), .ref (n + 0)], (ly_fo n M (ly_so.drop 2)))) rfl ?_
  refine nt_rn_s (c' := (68, [(0, .ref (n + 0))], [.ref (n + 16), .ref (n + 0)], (ly_fo n M (ly_so.drop 1)))) (e := (66, .newarray .int, 0, 0)) rfl rfl (ly_x_arr (c := n + 16) (k := 8) (by rw [ly_fo_n, hn]; rfl) (by omega) (by decide) (by decide) (by decide)) ?_
  refine nt_rn_s (c' := (71, [(0, .ref (n + 0))], [], (ly_fo n M (ly_so.drop 0)))) (e := (68, .putfield 38, 613, 0)) rfl rfl (nt_x_put (c := 6) (M' := (ly_fo n M (ly_so.drop 0))) (by rw [ly_fo_n, hn]; show n + 0 < n + 17; omega) (ly_fo_k (i := 0) (q := (6, 0)) (l := ly_so.drop 1) hn rfl).1 rfl rfl) ?_
  exact nt_rn_rv (e := (71, .return_, 0, 0)) rfl rfl rfl rfl
