def kk_reckons : sx_K := (198, 4, [(11, 0, 0, 9), (13, 2400, 2400, 0), (13, 288, 288, 0), (13, 6, 6, 14), (13, 212, 212, 10), (14, 64, 64, 0), (14, 10, 10, 0), (13, 212, 212, 10), (12, 400, 400, 0), (13, 400, 400, 0)], ([(0, 25, 25)], []), [(2, 0, (0, [])), (0, 0, (0, [(0, 1)])), (0, 0, (0, [(1, 1)])), (0, 0, (0, [(2, 1)]))], ([((101, (0, [(0, 4000400), (1, 10000), (2, 1)])), (1, []))], [((0, (3, [])), 2), ((0, (5, [])), 3), ((0, (6, [])), 4), ((0, (27, [])), 5), ((0, (24, [])), 6), ((0, (26, [])), 7), ((0, (28, [])), 8), ((0, (0, [])), 9), ((0, (22, [])), 10)], ([(0, 0, 5), (1, 0, 400), (2, 0, 400)], []), 3), [(some (1, 0, (0, [(3, 1)])), ([], [], ([(3, (-9223372036854775808), 9223372036854775807)], []), 4))])
def kk_one : sx_K := (201, 0, [], ([], []), [(0, 0, (0, [(0, 1)])), (1, 0, (0, [(1, 1)])), (1, 0, (0, [(2, 1)]))], ([], [], ([(0, (-2147483648), 2147483647), (1, (-9223372036854775808), 9223372036854775807), (2, (-9223372036854775808), 9223372036854775807)], []), 3), [(some (1, 0, (0, [(3, 1)])), ([], [], ([(3, (-9223372036854775808), 9223372036854775807)], []), 4))])
def kh_one : List (sx_A × sx_L) := []
theorem kc_one : sx_chk (sx_tbs, []) [] kk_one kh_one 3000 = true := by decide +kernel
theorem ko_one (X : nt_X) : sx_KOK X (sx_tbs, []) kk_one := sx_keeps (Ks := []) (fun K h => by cases h) kc_one
theorem kr_M {M M' : nt_M} (h1 : nt_n M' = nt_n M) (h2 : nt_z M' = nt_z M) (h3 : nt_k M' = nt_k M) (h4 : nt_l M' = nt_l M) (h5 : nt_I M' = nt_I M) (h6 : nt_J M' = nt_J M) (h7 : nt_R M' = nt_R M) : M' = M := by
  obtain ⟨⟨a1, a2⟩, a3, a4, a5, a6, a7⟩ := M
  obtain ⟨⟨b1, b2⟩, b3, b4, b5, b6, b7⟩ := M'
  have h1 : b1 = a1 := h1
  have h2 : b2 = a2 := h2
  have h3 : b3 = a3 := h3
  have h4 : b4 = a4 := h4
  have h5 : b5 = a5 := h5
  have h6 : b6 = a6 := h6
  have h7 : b7 = a7 := h7
  rw [h1, h2, h3, h4, h5, h6, h7]
theorem kr_one {X : nt_X} {d : Nat} {M : nt_M} (hn : nt_n M ≤ nt_sp) (s : Int32) (x y : Int64) : ∃ w : Int64, nt_ev X d 201 [.int s, .long x, .long y] M (some (.long w), M) := by
  have s1 := s.le_toInt
  have s2 := s.toInt_lt
  have x1 := x.le_toInt
  have x2 := x.toInt_lt
  have y1 := y.le_toInt
  have y2 := y.toInt_lt
  obtain ⟨o, h1, p, hp, r', h2, h3⟩ := ko_one X (fun _ => 0, M, fun i => if i = 0 then s.toInt else if i = 1 then x.toInt else y.toInt, sx_GG (sx_tbs, [])) (fun i => if i = 0 then s.toInt else if i = 1 then x.toInt else y.toInt) [.int s, .long x, .long y] M d (Nat.zero_le _) rfl rfl rfl ⟨⟨s, rfl, by rw [sx_s_e]; rfl⟩, ⟨x, rfl, by rw [sx_s_e]; rfl⟩, ⟨y, rfl, by rw [sx_s_e]; rfl⟩, trivial⟩ ⟨⟨fun _ _ _ _ _ => rfl, fun g h hg => absurd hg (Nat.not_lt_zero _)⟩, ⟨hn, fun g q h => by
    have h : ([] : sx_D)[g]? = some q := h
    rw [List.getElem?_nil] at h
    cases h⟩, fun q hq => (by cases hq), fun q hq => (by cases hq), ⟨fun q hq => by
      rcases List.mem_cons.mp hq with rfl | hq
      · show (-2147483648 : Int) ≤ s.toInt ∧ s.toInt ≤ 2147483647
        omega
      rcases List.mem_cons.mp hq with rfl | hq
      · show (-9223372036854775808 : Int) ≤ x.toInt ∧ x.toInt ≤ 9223372036854775807
        omega
      · rw [List.mem_singleton.mp hq]
        show (-9223372036854775808 : Int) ≤ y.toInt ∧ y.toInt ≤ 9223372036854775807
        omega, fun q hq => (by cases hq)⟩, fun _ _ => rfl, sx_fm_rf⟩
  rw [List.mem_singleton.mp hp] at h2 h3
  obtain ⟨ov, oM⟩ := o
  cases ov with
  | none => exact h2.elim
  | some v =>
    obtain ⟨w, rfl, hw⟩ := h2
    obtain ⟨⟨f1, f2, f3, f4⟩, f5, f6, f7⟩ := h3.2.2.2.2.2.2
    have e : oM = M := kr_M f1 f2 f3 f4 (funext fun a => funext fun j => f5 a j (fun q hq => by cases hq)) (funext fun a => f7 a (fun g hg => absurd hg (Nat.not_lt_zero _))) (funext fun a => funext fun j => f6 a j (fun q hq => by cases hq))
    rw [e] at h1
    exact ⟨w, h1⟩
theorem kr_push {X : nt_X} {d B S dd : Nat} {M : nt_M} {v : Int64} (hB : B < nt_n M) (kB : nt_k M B = 11) (hS : S < nt_n M) (kS : nt_k M S = 14) (lS : nt_l M S = 64) (rS : nt_R M B 24 = some S) (ht : nt_I M B 25 = nI dd) (hd : dd < 64) : nt_ev X d 199 [.ref B, .long v] M (none, nt_sI (nt_sJ M S dd v) B 25 (nI (dd + 1))) := by
  refine nt_rn_b 1 (c' := (1, [(0, .ref B), (1, .long v)], [.ref B], M)) rfl ?_
  refine nt_rn_s (e := (1, .getfield 38, 1124, 0)) rfl rfl (nt_x_get (c := 11) (v := .ref S) hB kB rfl (nt_gfR rfl rS)) ?_
  refine nt_rn_b 1 (c' := (5, [(0, .ref B), (1, .long v)], [.ref B, .ref S], M)) rfl ?_
  refine nt_rn_s (e := (5, .getfield 249, 1125, 0)) rfl rfl (nt_x_get (c := 11) (v := .int (nt_I M B 25)) hB kB rfl rfl) ?_
  refine nt_rn_b 1 (c' := (9, [(0, .ref B), (1, .long v)], [.long v, .int (nt_I M B 25), .ref S], M)) rfl ?_
  refine nt_rn_s (e := (9, .lastore, 0, 0)) rfl rfl (nt_x_jast (i := dd) hS kS ht (by rw [lS]; omega) (by rw [lS]; omega)) ?_
  refine nt_rn_b 2 (c' := (12, [(0, .ref B), (1, .long v)], [.ref B, .ref B], nt_sJ M S dd v)) rfl ?_
  refine nt_rn_s (e := (12, .getfield 249, 1125, 0)) rfl rfl (nt_x_get (c := 11) (v := .int (nt_I M B 25)) hB kB rfl rfl) ?_
  refine nt_rn_b 2 (c' := (17, [(0, .ref B), (1, .long v)], [.int (nt_I M B 25 + Int32.ofInt 1), .ref B], nt_sJ M S dd v)) rfl ?_
  refine nt_rn_s (e := (17, .putfield 249, 1125, 0)) rfl rfl (nt_x_put (c := 11) (M' := nt_sI (nt_sJ M S dd v) B 25 (nt_I M B 25 + Int32.ofInt 1)) hB kB rfl rfl) ?_
  exact nt_rn_rv (e := (20, .return_, 0, 0)) rfl rfl rfl (by rw [ht, show Int32.ofInt 1 = 1 from rfl, nI_1])
theorem kr_pop {X : nt_X} {d B S dd : Nat} {M : nt_M} (hB : B < nt_n M) (kB : nt_k M B = 11) (hS : S < nt_n M) (kS : nt_k M S = 14) (lS : nt_l M S = 64) (rS : nt_R M B 24 = some S) (ht : nt_I M B 25 = nI (dd + 1)) (hd : dd < 64) : nt_ev X d 200 [.ref B] M (some (.long (nt_J M S dd)), nt_sI M B 25 (nI dd)) := by
  refine nt_rn_b 2 (c' := (2, [(0, .ref B)], [.ref B, .ref B], M)) rfl ?_
  refine nt_rn_s (e := (2, .getfield 249, 1125, 0)) rfl rfl (nt_x_get (c := 11) (v := .int (nt_I M B 25)) hB kB rfl rfl) ?_
  refine nt_rn_b 2 (c' := (7, [(0, .ref B)], [.int (nt_I M B 25 - Int32.ofInt 1), .ref B], M)) rfl ?_
  refine nt_rn_s (e := (7, .putfield 249, 1125, 0)) rfl rfl (nt_x_put (c := 11) (M' := nt_sI M B 25 (nt_I M B 25 - Int32.ofInt 1)) hB kB rfl rfl) ?_
  rw [ht, show nI (dd + 1) - Int32.ofInt 1 = nI dd from nI_pred dd]
  refine nt_rn_b 1 (c' := (11, [(0, .ref B)], [.ref B], nt_sI M B 25 (nI dd))) rfl ?_
  refine nt_rn_s (e := (11, .getfield 38, 1124, 0)) rfl rfl (nt_x_get (c := 11) (v := .ref S) hB kB rfl (nt_gfR rfl rS)) ?_
  refine nt_rn_b 1 (c' := (15, [(0, .ref B)], [.ref B, .ref S], nt_sI M B 25 (nI dd))) rfl ?_
  refine nt_rn_s (e := (15, .getfield 249, 1125, 0)) rfl rfl (nt_x_get (c := 11) (v := .int (nI dd)) hB kB rfl (by
    show Value.int (if B = B then (if 25 = 25 then nI dd else nt_I M B 25) else nt_I M B 25) = _
    rw [if_pos rfl, if_pos rfl])) ?_
  refine nt_rn_s (e := (18, .laload, 0, 0)) rfl rfl (nt_x_jald (i := dd) hS kS rfl (by show dd < nt_l M S; rw [lS]; omega) (by show nt_l M S < _; rw [lS]; omega)) ?_
  exact nt_rn_rj (e := (19, .lreturn, 0, 0)) rfl rfl rfl rfl rfl
def kr_sh (B Sg S W : Nat) (M : nt_M) : Prop := nt_n M ≤ nt_sp ∧ (B < nt_n M ∧ nt_k M B = 11) ∧ (Sg < nt_n M ∧ nt_k M Sg = 13 ∧ nt_l M Sg = 2400) ∧ (S < nt_n M ∧ nt_k M S = 14 ∧ nt_l M S = 64) ∧ (W < nt_n M ∧ nt_k M W = 14 ∧ nt_l M W = 10) ∧ nt_R M B 3 = some Sg ∧ nt_R M B 24 = some S ∧ nt_R M B 26 = some W
def kr_rl (B S : Nat) (M M' : nt_M) : Prop := (nt_n M' = nt_n M ∧ nt_z M' = nt_z M ∧ nt_k M' = nt_k M ∧ nt_l M' = nt_l M) ∧ (∀ a j, ¬ (a = B ∧ j = 25) → nt_I M' a j = nt_I M a j) ∧ nt_R M' = nt_R M ∧ (∀ a, a ≠ S → nt_J M' a = nt_J M a)
theorem kr_tr {B S : Nat} {M M' M'' : nt_M} (h1 : kr_rl B S M M') (h2 : kr_rl B S M' M'') : kr_rl B S M M'' := by
  obtain ⟨⟨a1, a2, a3, a4⟩, a5, a6, a7⟩ := h1
  obtain ⟨⟨b1, b2, b3, b4⟩, b5, b6, b7⟩ := h2
  exact ⟨⟨b1.trans a1, b2.trans a2, b3.trans a3, b4.trans a4⟩, fun a j h => (b5 a j h).trans (a5 a j h), b6.trans a6, fun a h => (b7 a h).trans (a7 a h)⟩
theorem kr_rlI {B S : Nat} {M : nt_M} {x : Int32} : kr_rl B S M (nt_sI M B 25 x) := by
  refine ⟨⟨rfl, rfl, rfl, rfl⟩, fun a j h => ?_, rfl, fun a h => rfl⟩
  show (if a = B then (if j = 25 then x else nt_I M a j) else nt_I M a j) = nt_I M a j
  by_cases h1 : a = B
  · rw [if_pos h1, if_neg (fun h2 => h ⟨h1, h2⟩)]
  · rw [if_neg h1]
theorem kr_rlJ {B S i : Nat} {M : nt_M} {x : Int64} : kr_rl B S M (nt_sJ M S i x) := by
  refine ⟨⟨rfl, rfl, rfl, rfl⟩, fun a j h => rfl, rfl, fun a h => ?_⟩
  funext j
  show (if a = S then (if j = i then x else nt_J M a j) else nt_J M a j) = nt_J M a j
  rw [if_neg h]
theorem kr_25 {B : Nat} {M : nt_M} {x : Int32} : nt_I (nt_sI M B 25 x) B 25 = x := by
  show (if B = B then (if 25 = 25 then x else nt_I M B 25) else nt_I M B 25) = x
  rw [if_pos rfl, if_pos rfl]
theorem kr_pre {a : Nat → Int32} {b : Nat} : ∀ (m n d : Nat), nt_rp a b (n + m) = some d → ∃ d', nt_rp a b n = some d'
  | 0, n, d, h => ⟨d, h⟩
  | m + 1, n, d, h => by
    have h : nt_rp a b (n + m + 1) = some d := h
    unfold nt_rp at h
    split at h
    · cases h
    · rename_i d1 h1
      exact kr_pre m n d1 h1
theorem kr_60 {a : Nat → Int32} {b : Nat} : ∀ (n d : Nat), nt_rp a b n = some d → d ≤ 60
  | 0, d, h => by cases h; omega
  | n + 1, d, h => by
    unfold nt_rp at h
    split at h
    · cases h
    · rename_i d1 h1
      have := kr_60 n d1 h1
      by_cases c1 : a (b + n) &&& 15 = 0
      · rw [if_pos c1] at h
        by_cases c2 : d1 < 60
        · rw [if_pos c2] at h; cases h; omega
        · rw [if_neg c2] at h; cases h
      · rw [if_neg c1] at h
        by_cases c3 : a (b + n) &&& 15 = 1
        · rw [if_pos c3] at h
          split at h
          · rename_i c2; cases h; omega
          · cases h
        · rw [if_neg c3] at h
          by_cases c4 : a (b + n) &&& 15 = 11
          · rw [if_pos c4] at h
            split at h
            · cases h; omega
            · cases h
          · rw [if_neg c4] at h
            split at h
            · cases h; omega
            · cases h
theorem kr_loop {X : nt_X} {d B Sg S W t b e : Nat} (t6 : t < 6) (e4 : e ≤ 400) (nSB : Sg ≠ B) : ∀ (n i dd : Nat) (M : nt_M), i + n = e → b ≤ i → kr_sh B Sg S W M → nt_I M B 25 = nI dd → nt_rp (fun j => nt_I M Sg j) (400 * t + b) (i - b) = some dd → nt_rp (fun j => nt_I M Sg j) (400 * t + b) (e - b) = some 1 → ∃ (v : Int64) (M' : nt_M), nt_rn X (d + 1) 198 (8, [(4, .int (nI i)), (0, .ref B), (1, .int (nI t)), (3, .int (nI e))], [], M) (some (.long v), M') ∧ kr_rl B S M M' := by
  intro n
  induction n with
  | zero =>
    intro i dd M hin hbi hsh htop hrp hend
    obtain ⟨hn, ⟨hB, kB⟩, ⟨hSg, kSg, lSg⟩, ⟨hS, kS, lS⟩, ⟨hW, kW, lW⟩, rSg, rS, rW⟩ := id hsh
    have ei : i = e := by omega
    rw [ei, hend] at hrp
    cases hrp
    refine ⟨nt_J M S 0, nt_sI M B 25 (nI 0), ?_, kr_rlI⟩
    refine nt_rn_b 3 (c' := (if nI e ≤ nI i then 135 else 14, [(4, .int (nI i)), (0, .ref B), (1, .int (nI t)), (3, .int (nI e))], [], M)) rfl ?_
    rw [if_pos (nI_le (by omega) (by omega))]
    refine nt_rn_b 1 (c' := (136, [(4, .int (nI i)), (0, .ref B), (1, .int (nI t)), (3, .int (nI e))], [.ref B], M)) rfl ?_
    refine nt_rn_c (g := 200) (q := 1) (vs := [.ref B]) (rest := []) (e := (136, .invokevirtual 256, 200, 0)) rfl rfl (Or.inr (Or.inl ⟨_, rfl, rfl⟩)) rfl (fun _ => nt_rcI hB kB) (fun h => by cases h) (kr_pop hB kB hS kS lS rS (dd := 0) htop (by omega)) ?_
    exact nt_rn_rj (e := (139, .lreturn, 0, 0)) rfl rfl rfl rfl rfl
  | succ n ih =>
    intro i dd M hin hbi hsh htop hrp hend
    obtain ⟨hn, ⟨hB, kB⟩, ⟨hSg, kSg, lSg⟩, ⟨hS, kS, lS⟩, ⟨hW, kW, lW⟩, rSg, rS, rW⟩ := id hsh
    have hidx : Int32.ofInt 400 * nI t + nI i = nI (400 * t + i) := by
      rw [show Int32.ofInt 400 = nI 400 from rfl]
      refine Int32.toInt_inj.mp ?_
      rw [nI_toInt (by omega), Int32.toInt_add, Int32.toInt_mul, nI_toInt (by omega), nI_toInt (by omega), nI_toInt (by omega), Int.bmod_eq_of_le (n := (400 : Nat) * (t : Nat)) (by omega) (by omega), Int.bmod_eq_of_le (by omega) (by omega)]
      omega
    obtain ⟨d1, hd1⟩ : ∃ d1, nt_rp (fun j => nt_I M Sg j) (400 * t + b) (i + 1 - b) = some d1 := kr_pre (e - (i + 1)) (i + 1 - b) 1 (by rw [show i + 1 - b + (e - (i + 1)) = e - b from by omega]; exact hend)
    have hd60 := kr_60 _ _ hrp
    generalize hx : nt_I M Sg (400 * t + i) = x
    have hun : (if x &&& 15 = 0 then (if dd < 60 then some (dd + 1) else none) else if x &&& 15 = 1 then (if dd < 60 ∧ 0 ≤ (x >>> 4).toInt ∧ (x >>> 4).toInt ≤ 9 then some (dd + 1) else none) else if x &&& 15 = 11 then (if 1 ≤ dd then some dd else none) else (if 2 ≤ dd then some (dd - 1) else none)) = some d1 := by
      have h := hd1
      rw [show i + 1 - b = i - b + 1 from by omega] at h
      unfold nt_rp at h
      rw [hrp] at h
      dsimp only at h
      rw [show 400 * t + b + (i - b) = 400 * t + i from by omega, hx] at h
      exact h
    have run : ∀ r, nt_rn X (d + 1) 198 (49, [(6, .int (x >>> 4)), (5, .int (x &&& 15)), (4, .int (nI i)), (0, .ref B), (1, .int (nI t)), (3, .int (nI e))], [], M) r → nt_rn X (d + 1) 198 (8, [(4, .int (nI i)), (0, .ref B), (1, .int (nI t)), (3, .int (nI e))], [], M) r := by
      intro r h
      refine nt_rn_b 3 (c' := (if nI e ≤ nI i then 135 else 14, [(4, .int (nI i)), (0, .ref B), (1, .int (nI t)), (3, .int (nI e))], [], M)) rfl ?_
      rw [if_neg (nI_ge (by omega) (by omega))]
      refine nt_rn_b 1 (c' := (15, [(4, .int (nI i)), (0, .ref B), (1, .int (nI t)), (3, .int (nI e))], [.ref B], M)) rfl ?_
      refine nt_rn_s (e := (15, .getfield 13, 1103, 0)) rfl rfl (nt_x_get (c := 11) (v := .ref Sg) hB kB rfl (nt_gfR rfl rSg)) ?_
      refine nt_rn_b 5 (c' := (26, [(4, .int (nI i)), (0, .ref B), (1, .int (nI t)), (3, .int (nI e))], [.int (Int32.ofInt 400 * nI t + nI i), .ref Sg], M)) rfl ?_
      refine nt_rn_s (e := (26, .iaload, 0, 0)) rfl rfl (nt_x_iald (i := 400 * t + i) hSg kSg hn hidx (by rw [lSg]; omega) (by rw [lSg]; omega)) ?_
      rw [hx]
      refine nt_rn_b 4 (c' := (33, [(5, .int (x &&& Int32.ofInt 15)), (4, .int (nI i)), (0, .ref B), (1, .int (nI t)), (3, .int (nI e))], [.ref B], M)) rfl ?_
      refine nt_rn_s (e := (33, .getfield 13, 1103, 0)) rfl rfl (nt_x_get (c := 11) (v := .ref Sg) hB kB rfl (nt_gfR rfl rSg)) ?_
      refine nt_rn_b 5 (c' := (44, [(5, .int (x &&& Int32.ofInt 15)), (4, .int (nI i)), (0, .ref B), (1, .int (nI t)), (3, .int (nI e))], [.int (Int32.ofInt 400 * nI t + nI i), .ref Sg], M)) rfl ?_
      refine nt_rn_s (e := (44, .iaload, 0, 0)) rfl rfl (nt_x_iald (i := 400 * t + i) hSg kSg hn hidx (by rw [lSg]; omega) (by rw [lSg]; omega)) ?_
      rw [hx]
      refine nt_rn_b 3 (c' := (49, [(6, .int (x >>> (Int32.ofInt 4 &&& 31))), (5, .int (x &&& Int32.ofInt 15)), (4, .int (nI i)), (0, .ref B), (1, .int (nI t)), (3, .int (nI e))], [], M)) rfl ?_
      rw [show (Int32.ofInt 4 &&& 31 : Int32) = 4 from by decide, show Int32.ofInt 15 = 15 from rfl]
      exact h
    have fin : ∀ (L : nt_V) (M2 : nt_M) (r : Option Value × nt_M), nt_sb [(4, .int (nI i)), (0, .ref B), (1, .int (nI t)), (3, .int (nI e))] L → nt_rn X (d + 1) 198 (8, [(4, .int (nI (i + 1))), (0, .ref B), (1, .int (nI t)), (3, .int (nI e))], [], M2) r → nt_rn X (d + 1) 198 (129, L, [], M2) r := by
      intro L M2 r hs h
      refine nt_rn_w hs rfl ?_
      refine nt_rn_b 2 (c' := (8, [(4, .int (nI i + Int32.ofInt 1)), (0, .ref B), (1, .int (nI t)), (3, .int (nI e))], [], M2)) rfl ?_
      rw [show nI i + Int32.ofInt 1 = nI (i + 1) from nI_1 i]
      exact h
    have nxt : ∀ M2 : nt_M, kr_rl B S M M2 → kr_sh B Sg S W M2 ∧ nt_rp (fun j => nt_I M2 Sg j) (400 * t + b) (i + 1 - b) = some d1 ∧ nt_rp (fun j => nt_I M2 Sg j) (400 * t + b) (e - b) = some 1 := by
      intro M2 h
      obtain ⟨⟨a1, a2, a3, a4⟩, a5, a6, a7⟩ := h
      have er : (fun j => nt_I M2 Sg j) = (fun j => nt_I M Sg j) := funext fun j => a5 Sg j (fun q => nSB q.1)
      rw [er]
      refine ⟨?_, hd1, hend⟩
      unfold kr_sh at hsh ⊢
      rw [a1, a3, a4, a6]
      exact hsh
    by_cases c0 : x &&& 15 = 0
    · rw [if_pos c0] at hun
      by_cases c00 : dd < 60
      · rw [if_pos c00] at hun
        cases hun
        have hM2 : kr_rl B S M (nt_sI (nt_sJ M S dd (x >>> 4).toInt64) B 25 (nI (dd + 1))) := kr_tr kr_rlJ kr_rlI
        obtain ⟨n1, n2, n3⟩ := nxt _ hM2
        obtain ⟨v, M', hr, hl⟩ := ih (i + 1) (dd + 1) _ (by omega) (by omega) n1 kr_25 n2 n3
        refine ⟨v, M', run _ ?_, kr_tr hM2 hl⟩
        refine nt_rn_b 2 (c' := (if x &&& 15 = 0 then 54 else 64, [(6, .int (x >>> 4)), (5, .int (x &&& 15)), (4, .int (nI i)), (0, .ref B), (1, .int (nI t)), (3, .int (nI e))], [], M)) rfl ?_
        rw [if_pos c0]
        refine nt_rn_b 3 (c' := (58, [(6, .int (x >>> 4)), (5, .int (x &&& 15)), (4, .int (nI i)), (0, .ref B), (1, .int (nI t)), (3, .int (nI e))], [.long (x >>> 4).toInt64, .ref B], M)) rfl ?_
        refine nt_rn_c (g := 199) (q := 1) (vs := [.ref B, .long (x >>> 4).toInt64]) (rest := []) (e := (58, .invokevirtual 252, 199, 0)) rfl rfl (Or.inr (Or.inl ⟨_, rfl, rfl⟩)) rfl (fun _ => nt_rcI hB kB) (fun h => by cases h) (kr_push hB kB hS kS lS rS (dd := dd) htop (by omega)) ?_
        refine nt_rn_b 1 (c' := (129, [(6, .int (x >>> 4)), (5, .int (x &&& 15)), (4, .int (nI i)), (0, .ref B), (1, .int (nI t)), (3, .int (nI e))], [], nt_sI (nt_sJ M S dd (x >>> 4).toInt64) B 25 (nI (dd + 1)))) rfl ?_
        exact fin _ _ _ ⟨rfl, rfl, rfl, rfl, trivial⟩ hr
      · rw [if_neg c00] at hun; cases hun
    · rw [if_neg c0] at hun
      have r0 : ∀ r, nt_rn X (d + 1) 198 (64, [(6, .int (x >>> 4)), (5, .int (x &&& 15)), (4, .int (nI i)), (0, .ref B), (1, .int (nI t)), (3, .int (nI e))], [], M) r → nt_rn X (d + 1) 198 (49, [(6, .int (x >>> 4)), (5, .int (x &&& 15)), (4, .int (nI i)), (0, .ref B), (1, .int (nI t)), (3, .int (nI e))], [], M) r := by
        intro r h
        refine nt_rn_b 2 (c' := (if x &&& 15 = 0 then 54 else 64, [(6, .int (x >>> 4)), (5, .int (x &&& 15)), (4, .int (nI i)), (0, .ref B), (1, .int (nI t)), (3, .int (nI e))], [], M)) rfl ?_
        rw [if_neg c0]
        exact h
      by_cases c1 : x &&& 15 = 1
      · rw [if_pos c1] at hun
        by_cases c11 : dd < 60 ∧ 0 ≤ (x >>> 4).toInt ∧ (x >>> 4).toInt ≤ 9
        · rw [if_pos c11] at hun
          cases hun
          have ev : x >>> 4 = nI (x >>> 4).toInt.toNat := Int32.toInt_inj.mp (by rw [nI_toInt (by omega)]; omega)
          have hM2 : kr_rl B S M (nt_sI (nt_sJ M S dd (nt_J M W (x >>> 4).toInt.toNat)) B 25 (nI (dd + 1))) := kr_tr kr_rlJ kr_rlI
          obtain ⟨n1, n2, n3⟩ := nxt _ hM2
          obtain ⟨v, M', hr, hl⟩ := ih (i + 1) (dd + 1) _ (by omega) (by omega) n1 kr_25 n2 n3
          refine ⟨v, M', run _ (r0 _ ?_), kr_tr hM2 hl⟩
          refine nt_rn_b 3 (c' := (if x &&& 15 = Int32.ofInt 1 then 70 else 84, [(6, .int (x >>> 4)), (5, .int (x &&& 15)), (4, .int (nI i)), (0, .ref B), (1, .int (nI t)), (3, .int (nI e))], [], M)) rfl ?_
          rw [if_pos (show x &&& 15 = Int32.ofInt 1 from c1)]
          refine nt_rn_b 2 (c' := (72, [(6, .int (x >>> 4)), (5, .int (x &&& 15)), (4, .int (nI i)), (0, .ref B), (1, .int (nI t)), (3, .int (nI e))], [.ref B, .ref B], M)) rfl ?_
          refine nt_rn_s (e := (72, .getfield 42, 1126, 0)) rfl rfl (nt_x_get (c := 11) (v := .ref W) hB kB rfl (nt_gfR rfl rW)) ?_
          refine nt_rn_b 1 (c' := (77, [(6, .int (x >>> 4)), (5, .int (x &&& 15)), (4, .int (nI i)), (0, .ref B), (1, .int (nI t)), (3, .int (nI e))], [.int (x >>> 4), .ref W, .ref B], M)) rfl ?_
          refine nt_rn_s (e := (77, .laload, 0, 0)) rfl rfl (nt_x_jald (i := (x >>> 4).toInt.toNat) hW kW ev (by rw [lW]; omega) (by rw [lW]; omega)) ?_
          refine nt_rn_c (g := 199) (q := 1) (vs := [.ref B, .long (nt_J M W (x >>> 4).toInt.toNat)]) (rest := []) (e := (78, .invokevirtual 252, 199, 0)) rfl rfl (Or.inr (Or.inl ⟨_, rfl, rfl⟩)) rfl (fun _ => nt_rcI hB kB) (fun h => by cases h) (kr_push hB kB hS kS lS rS (dd := dd) htop (by omega)) ?_
          refine nt_rn_b 1 (c' := (129, [(6, .int (x >>> 4)), (5, .int (x &&& 15)), (4, .int (nI i)), (0, .ref B), (1, .int (nI t)), (3, .int (nI e))], [], nt_sI (nt_sJ M S dd (nt_J M W (x >>> 4).toInt.toNat)) B 25 (nI (dd + 1)))) rfl ?_
          exact fin _ _ _ ⟨rfl, rfl, rfl, rfl, trivial⟩ hr
        · rw [if_neg c11] at hun; cases hun
      · rw [if_neg c1] at hun
        have r1 : ∀ r, nt_rn X (d + 1) 198 (84, [(6, .int (x >>> 4)), (5, .int (x &&& 15)), (4, .int (nI i)), (0, .ref B), (1, .int (nI t)), (3, .int (nI e))], [], M) r → nt_rn X (d + 1) 198 (49, [(6, .int (x >>> 4)), (5, .int (x &&& 15)), (4, .int (nI i)), (0, .ref B), (1, .int (nI t)), (3, .int (nI e))], [], M) r := by
          intro r h
          refine r0 _ ?_
          refine nt_rn_b 3 (c' := (if x &&& 15 = Int32.ofInt 1 then 70 else 84, [(6, .int (x >>> 4)), (5, .int (x &&& 15)), (4, .int (nI i)), (0, .ref B), (1, .int (nI t)), (3, .int (nI e))], [], M)) rfl ?_
          rw [if_neg (show ¬ x &&& 15 = Int32.ofInt 1 from c1)]
          exact h
        by_cases c2 : x &&& 15 = 11
        · rw [if_pos c2] at hun
          by_cases c22 : 1 ≤ dd
          · rw [if_pos c22] at hun
            cases hun
            obtain ⟨d0, hd0⟩ : ∃ d0, dd = d0 + 1 := ⟨dd - 1, by omega⟩
            rw [hd0] at htop
            generalize hMp : nt_sI M B 25 (nI d0) = Mp
            have hlp : kr_rl B S M Mp := by rw [← hMp]; exact kr_rlI
            have tp : nt_I Mp B 25 = nI d0 := by rw [← hMp]; exact kr_25
            obtain ⟨⟨hnP, ⟨hBP, kBP⟩, ⟨hSgP, kSgP, lSgP⟩, ⟨hSP, kSP, lSP⟩, ⟨hWP, kWP, lWP⟩, rSgP, rSP, rWP⟩, _, _⟩ := nxt _ hlp
            have hM2 : kr_rl B S M (nt_sI (nt_sJ Mp S d0 (Int64.ofNat 1 - nt_J M S d0)) B 25 (nI (d0 + 1))) := kr_tr hlp (kr_tr kr_rlJ kr_rlI)
            obtain ⟨n1, n2, n3⟩ := nxt _ hM2
            obtain ⟨v, M', hr, hl⟩ := ih (i + 1) (d0 + 1) _ (by omega) (by omega) n1 kr_25 (n2.trans (congrArg some hd0)) n3
            refine ⟨v, M', run _ (r1 _ ?_), kr_tr hM2 hl⟩
            refine nt_rn_b 3 (c' := (if x &&& 15 = Int32.ofInt 11 then 91 else 104, [(6, .int (x >>> 4)), (5, .int (x &&& 15)), (4, .int (nI i)), (0, .ref B), (1, .int (nI t)), (3, .int (nI e))], [], M)) rfl ?_
            rw [if_pos (show x &&& 15 = Int32.ofInt 11 from c2)]
            refine nt_rn_b 3 (c' := (94, [(6, .int (x >>> 4)), (5, .int (x &&& 15)), (4, .int (nI i)), (0, .ref B), (1, .int (nI t)), (3, .int (nI e))], [.ref B, .long (Int64.ofNat 1), .ref B], M)) rfl ?_
            refine nt_rn_c (g := 200) (q := 1) (vs := [.ref B]) (rest := [.long (Int64.ofNat 1), .ref B]) (e := (94, .invokevirtual 256, 200, 0)) rfl rfl (Or.inr (Or.inl ⟨_, rfl, rfl⟩)) rfl (fun _ => nt_rcI hB kB) (fun h => by cases h) (kr_pop hB kB hS kS lS rS (dd := d0) htop (by omega)) ?_
            rw [hMp]
            refine nt_rn_b 1 (c' := (98, [(6, .int (x >>> 4)), (5, .int (x &&& 15)), (4, .int (nI i)), (0, .ref B), (1, .int (nI t)), (3, .int (nI e))], [.long (Int64.ofNat 1 - nt_J M S d0), .ref B], Mp)) rfl ?_
            refine nt_rn_c (g := 199) (q := 1) (vs := [.ref B, .long (Int64.ofNat 1 - nt_J M S d0)]) (rest := []) (e := (98, .invokevirtual 252, 199, 0)) rfl rfl (Or.inr (Or.inl ⟨_, rfl, rfl⟩)) rfl (fun _ => nt_rcI hBP kBP) (fun h => by cases h) (kr_push hBP kBP hSP kSP lSP rSP (dd := d0) tp (by omega)) ?_
            refine nt_rn_b 1 (c' := (129, [(6, .int (x >>> 4)), (5, .int (x &&& 15)), (4, .int (nI i)), (0, .ref B), (1, .int (nI t)), (3, .int (nI e))], [], nt_sI (nt_sJ Mp S d0 (Int64.ofNat 1 - nt_J M S d0)) B 25 (nI (d0 + 1)))) rfl ?_
            exact fin _ _ _ ⟨rfl, rfl, rfl, rfl, trivial⟩ hr
          · rw [if_neg c22] at hun; cases hun
        · rw [if_neg c2] at hun
          by_cases c33 : 2 ≤ dd
          · rw [if_pos c33] at hun
            cases hun
            obtain ⟨d0, hd0⟩ : ∃ d0, dd = d0 + 2 := ⟨dd - 2, by omega⟩
            rw [hd0] at htop
            generalize hMp : nt_sI M B 25 (nI (d0 + 1)) = Mp
            have hlp : kr_rl B S M Mp := by rw [← hMp]; exact kr_rlI
            have tp : nt_I Mp B 25 = nI (d0 + 1) := by rw [← hMp]; exact kr_25
            obtain ⟨⟨hnP, ⟨hBP, kBP⟩, ⟨hSgP, kSgP, lSgP⟩, ⟨hSP, kSP, lSP⟩, ⟨hWP, kWP, lWP⟩, rSgP, rSP, rWP⟩, _, _⟩ := nxt _ hlp
            generalize hMq : nt_sI Mp B 25 (nI d0) = Mq
            have hlq : kr_rl B S M Mq := by rw [← hMq]; exact kr_tr hlp kr_rlI
            have tq : nt_I Mq B 25 = nI d0 := by rw [← hMq]; exact kr_25
            obtain ⟨⟨hnQ, ⟨hBQ, kBQ⟩, ⟨hSgQ, kSgQ, lSgQ⟩, ⟨hSQ, kSQ, lSQ⟩, ⟨hWQ, kWQ, lWQ⟩, rSgQ, rSQ, rWQ⟩, _, _⟩ := nxt _ hlq
            obtain ⟨w, hw⟩ := kr_one (X := X) (d := d) hnQ (x &&& 15) (nt_J Mp S d0) (nt_J M S (d0 + 1))
            have hM2 : kr_rl B S M (nt_sI (nt_sJ Mq S d0 w) B 25 (nI (d0 + 1))) := kr_tr hlq (kr_tr kr_rlJ kr_rlI)
            obtain ⟨n1, n2, n3⟩ := nxt _ hM2
            obtain ⟨v, M', hr, hl⟩ := ih (i + 1) (d0 + 1) _ (by omega) (by omega) n1 kr_25 (n2.trans (congrArg some (by omega))) n3
            refine ⟨v, M', run _ (r1 _ ?_), kr_tr hM2 hl⟩
            refine nt_rn_b 3 (c' := (if x &&& 15 = Int32.ofInt 11 then 91 else 104, [(6, .int (x >>> 4)), (5, .int (x &&& 15)), (4, .int (nI i)), (0, .ref B), (1, .int (nI t)), (3, .int (nI e))], [], M)) rfl ?_
            rw [if_neg (show ¬ x &&& 15 = Int32.ofInt 11 from c2)]
            refine nt_rn_b 1 (c' := (105, [(6, .int (x >>> 4)), (5, .int (x &&& 15)), (4, .int (nI i)), (0, .ref B), (1, .int (nI t)), (3, .int (nI e))], [.ref B], M)) rfl ?_
            refine nt_rn_c (g := 200) (q := 1) (vs := [.ref B]) (rest := []) (e := (105, .invokevirtual 256, 200, 0)) rfl rfl (Or.inr (Or.inl ⟨_, rfl, rfl⟩)) rfl (fun _ => nt_rcI hB kB) (fun h => by cases h) (kr_pop hB kB hS kS lS rS (dd := d0 + 1) htop (by omega)) ?_
            rw [hMp]
            refine nt_rn_b 2 (c' := (111, [(7, .long (nt_J M S (d0 + 1))), (6, .int (x >>> 4)), (5, .int (x &&& 15)), (4, .int (nI i)), (0, .ref B), (1, .int (nI t)), (3, .int (nI e))], [.ref B], Mp)) rfl ?_
            refine nt_rn_c (g := 200) (q := 1) (vs := [.ref B]) (rest := []) (e := (111, .invokevirtual 256, 200, 0)) rfl rfl (Or.inr (Or.inl ⟨_, rfl, rfl⟩)) rfl (fun _ => nt_rcI hBP kBP) (fun h => by cases h) (kr_pop hBP kBP hSP kSP lSP rSP (dd := d0) tp (by omega)) ?_
            rw [hMq]
            refine nt_rn_b 5 (c' := (123, [(9, .long (nt_J Mp S d0)), (7, .long (nt_J M S (d0 + 1))), (6, .int (x >>> 4)), (5, .int (x &&& 15)), (4, .int (nI i)), (0, .ref B), (1, .int (nI t)), (3, .int (nI e))], [.long (nt_J M S (d0 + 1)), .long (nt_J Mp S d0), .int (x &&& 15), .ref B], Mq)) rfl ?_
            refine nt_rn_c (g := 201) (q := 0) (vs := [.int (x &&& 15), .long (nt_J Mp S d0), .long (nt_J M S (d0 + 1))]) (rest := [.ref B]) (e := (123, .invokestatic 260, 201, 0)) rfl rfl (Or.inl ⟨_, rfl, rfl⟩) rfl (fun h => by cases h) (fun h => by cases h) hw ?_
            refine nt_rn_c (g := 199) (q := 1) (vs := [.ref B, .long w]) (rest := []) (e := (126, .invokevirtual 252, 199, 0)) rfl rfl (Or.inr (Or.inl ⟨_, rfl, rfl⟩)) rfl (fun _ => nt_rcI hBQ kBQ) (fun h => by cases h) (kr_push hBQ kBQ hSQ kSQ lSQ rSQ (dd := d0) tq (by omega)) ?_
            exact fin _ _ _ ⟨rfl, rfl, rfl, rfl, trivial⟩ hr
          · rw [if_neg c33] at hun; cases hun
theorem kr_g1 {p : Nat → Nat → Int32} {b k : Int} (hb : 0 ≤ b) (hk : 0 ≤ k) (hk2 : k < 10000) : nt_ghost 1 p (10000 * b + k) = (match nt_rp (p 1) b.toNat (k - b).toNat with | some d => (d : Int) | none => -1) := by
  have e1 : (10000 * b + k) % 10000 = k := by omega
  have e2 : (10000 * b + k) / 10000 = b := by omega
  unfold nt_ghost
  rw [if_neg (by decide), if_pos rfl, if_pos (by omega), e1, e2]
  rfl
theorem ko_reckons (X : nt_X) : sx_KOK X (sx_tbs, sx_gps) kk_reckons := by
  intro F r vs M d hd hM hr hG hargs hon
  obtain ⟨v0, u0, rfl, rfl, ha⟩ := sx_os_c hargs
  obtain ⟨v1, u1, rfl, ⟨tI, rfl, ht⟩, ha1⟩ := sx_os_c ha
  obtain ⟨v2, u2, rfl, ⟨bI, rfl, hb⟩, ha2⟩ := sx_os_c ha1
  obtain ⟨v3, u3, rfl, ⟨eI, rfl, he⟩, ha3⟩ := sx_os_c ha2
  cases u3 with
  | cons _ _ => exact ha3.elim
  | nil =>
  have ht : tI.toInt = r 0 := by rw [ht]; exact sx_s_e r 0
  have hb : bI.toInt = r 1 := by rw [hb]; exact sx_s_e r 1
  have he : eI.toInt = r 2 := by rw [he]; exact sx_s_e r 2
  have hgh : F.2.2.2 = nt_ghost := hG
  have hob := hon.2.2.2.2.1.1
  have b0 := hob (0, 0, 5) (List.Mem.head _)
  have b1 := hob (1, 0, 400) (List.Mem.tail _ (List.Mem.head _))
  have b2 := hob (2, 0, 400) (List.Mem.tail _ (List.Mem.tail _ (List.Mem.head _)))
  dsimp only at b0 b1 b2
  have k0 := (hon.2.2.1 ((101, (0, [(0, 4000400), (1, 10000), (2, 1)])), (1, [])) (List.Mem.head _)).2
  dsimp only at k0
  obtain ⟨t, et⟩ : ∃ t : Nat, r 0 = (t : Int) := ⟨(r 0).toNat, by omega⟩
  obtain ⟨b, eb⟩ : ∃ b : Nat, r 1 = (b : Int) := ⟨(r 1).toNat, by omega⟩
  obtain ⟨e, ee⟩ : ∃ e : Nat, r 2 = (e : Int) := ⟨(r 2).toNat, by omega⟩
  have e0 : sx_e r (0, [(0, 4000400), (1, 10000), (2, 1)]) = 10000 * ((400 * t + b : Nat) : Int) + ((400 * t + e : Nat) : Int) := by
    show (0 : Int) + (4000400 * r 0 + (10000 * r 1 + (1 * r 2 + 0))) = _
    omega
  rw [et] at b0 ht
  rw [eb] at b1 hb
  rw [ee] at b2 he
  rw [e0, sx_c_e] at k0
  unfold sx_rd at k0
  rw [if_pos (by decide), hgh, show (101 - 100 : Nat) = 1 from rfl, kr_g1 (by omega) (by omega) (by omega)] at k0
  rw [show (((400 * t + b : Nat) : Int)).toNat = 400 * t + b from by omega, show (((400 * t + e : Nat) : Int) - ((400 * t + b : Nat) : Int)).toNat = e - b from by omega] at k0
  have hrp : nt_rp (fun j => nt_I M (F.1 1) j) (400 * t + b) (e - b) = some 1 := by
    cases hq : nt_rp (fun j => nt_I M (F.1 1) j) (400 * t + b) (e - b) with
    | none =>
      rw [hq] at k0
      dsimp only at k0
      omega
    | some q =>
      rw [hq] at k0
      dsimp only at k0
      rw [show q = 1 from by omega]
  have hbe : b ≤ e := by
    by_cases h : b ≤ e
    · exact h
    · rw [show e - b = 0 from by omega] at hrp
      cases hrp
  have hij := hon.1.2
  have g0 := hon.2.1.2 0 _ (show (sx_KE (sx_tbs, sx_gps) kk_reckons).2.1[0]? = some (11, 0, 0, 9) from rfl)
  have g1 := hon.2.1.2 1 _ (show (sx_KE (sx_tbs, sx_gps) kk_reckons).2.1[1]? = some (13, 2400, 2400, 0) from rfl)
  have g5 := hon.2.1.2 5 _ (show (sx_KE (sx_tbs, sx_gps) kk_reckons).2.1[5]? = some (14, 64, 64, 0) from rfl)
  have g6 := hon.2.1.2 6 _ (show (sx_KE (sx_tbs, sx_gps) kk_reckons).2.1[6]? = some (14, 10, 10, 0) from rfl)
  have rS := (hon.2.2.2.1 ((0, (24, [])), 6) (List.mem_of_getElem? (i := 4) rfl)).2.2
  have rW := (hon.2.2.2.1 ((0, (26, [])), 7) (List.mem_of_getElem? (i := 5) rfl)).2.2
  have rG := (hon.2.2.2.1 ((0, (3, [])), 2) (List.Mem.head _)).2.2
  dsimp only at rS rW rG
  rw [sx_c_e] at rS rW rG
  have rG : nt_R M (F.1 0) 3 = some (F.1 1) := rG
  have rS : nt_R M (F.1 0) 24 = some (F.1 5) := rS
  have rW : nt_R M (F.1 0) 26 = some (F.1 6) := rW
  have nSB : F.1 1 ≠ F.1 0 := fun h => absurd (hij 1 0 (by show 1 < 10; omega) (by show 0 < 10; omega) h) (by decide)
  have hsh : kr_sh (F.1 0) (F.1 1) (F.1 5) (F.1 6) M := ⟨hon.2.1.1, ⟨g0.1, g0.2.1⟩, ⟨g1.1, g1.2.1, by have := g1.2.2.1; dsimp only at this; omega⟩, ⟨g5.1, g5.2.1, by have := g5.2.2.1; dsimp only at this; omega⟩, ⟨g6.1, g6.2.1, by have := g6.2.2.1; dsimp only at this; omega⟩, rG, rS, rW⟩
  have eT : tI = nI t := Int32.toInt_inj.mp (by rw [nI_toInt (by omega)]; exact ht)
  have eB : bI = nI b := Int32.toInt_inj.mp (by rw [nI_toInt (by omega)]; exact hb)
  have eE : eI = nI e := Int32.toInt_inj.mp (by rw [nI_toInt (by omega)]; exact he)
  obtain ⟨d', rfl⟩ : ∃ d', d = d' + 1 := ⟨d - 1, by have : 4 ≤ d := hd; omega⟩
  have row1 : (fun j => nt_I (nt_sI M (F.1 0) 25 (nI 0)) (F.1 1) j) = (fun j => nt_I M (F.1 1) j) := by
    funext j
    show (if F.1 1 = F.1 0 then (if j = 25 then nI 0 else nt_I M (F.1 1) j) else nt_I M (F.1 1) j) = _
    rw [if_neg nSB]
  obtain ⟨v, M', hrun, hrl⟩ := kr_loop (X := X) (d := d') (B := F.1 0) (Sg := F.1 1) (S := F.1 5) (W := F.1 6) (t := t) (b := b) (e := e) (by omega) (by omega) nSB (e - b) b 0 (nt_sI M (F.1 0) 25 (nI 0)) (by omega) (by omega) hsh kr_25 (by rw [show b - b = 0 from by omega]; rfl) (by rw [row1]; exact hrp)
  have hrl : kr_rl (F.1 0) (F.1 5) M M' := kr_tr kr_rlI hrl
  obtain ⟨⟨f1, f2, f3, f4⟩, f5, f6, f7⟩ := hrl
  have v1 := v.le_toInt
  have v2 := v.toInt_lt
  refine ⟨(some (.long v), M'), ?_, _, List.Mem.head _, sx_ud r 3 v.toInt, ⟨v, rfl, by rw [sx_s_e]; exact (if_pos rfl).symm⟩, hon.1, ⟨by rw [f1]; exact hon.2.1.1, fun g q hq => ?_⟩, fun q hq => (by cases hq), fun q hq => (by cases hq), ⟨fun q hq => ?_, fun q hq => (by cases hq)⟩, fun s hs => ?_, ?_⟩
  · rw [eT, eB, eE]
    refine nt_rn_b 2 (c' := (2, [(0, .ref (F.1 0)), (1, .int (nI t)), (2, .int (nI b)), (3, .int (nI e))], [.int (Int32.ofInt 0), .ref (F.1 0)], M)) rfl ?_
    refine nt_rn_s (e := (2, .putfield 249, 1125, 0)) rfl rfl (nt_x_put (c := 11) (M' := nt_sI M (F.1 0) 25 (Int32.ofInt 0)) g0.1 g0.2.1 rfl rfl) ?_
    refine nt_rn_b 2 (c' := (8, [(4, .int (nI b)), (0, .ref (F.1 0)), (1, .int (nI t)), (2, .int (nI b)), (3, .int (nI e))], [], nt_sI M (F.1 0) 25 (Int32.ofInt 0))) rfl ?_
    exact nt_rn_w (a := [(4, .int (nI b)), (0, .ref (F.1 0)), (1, .int (nI t)), (3, .int (nI e))]) ⟨rfl, rfl, rfl, rfl, trivial⟩ rfl hrun
  · have h := hon.2.1.2 g q hq
    rw [f1, f3, f4]
    refine ⟨h.1, h.2.1, h.2.2.1, h.2.2.2.1, fun j => ?_⟩
    by_cases hj : F.1 g = F.1 0 ∧ j = 25
    · have hg : g = 0 := hij g 0 (List.getElem?_eq_some_iff.mp hq).1 (by show 0 < 10; omega) hj.1
      rw [hg] at hq
      cases hq
      rw [hj.2]
      have l1 := (nt_I M' (F.1 g) 25).le_toInt
      have l2 := (nt_I M' (F.1 g) 25).toInt_lt
      show (-2147483648 : Int) ≤ (nt_I M' (F.1 g) 25).toInt ∧ (nt_I M' (F.1 g) 25).toInt ≤ 2147483647
      omega
    · rw [f5 _ _ hj]
      exact h.2.2.2.2 j
  · rw [List.mem_singleton.mp hq]
    show (-9223372036854775808 : Int) ≤ v.toInt ∧ v.toInt ≤ 9223372036854775807
    omega
  · have hs : s < 3 := hs
    have : sx_ud r 3 v.toInt s = r s := if_neg (by omega)
    rw [this]
    exact hon.2.2.2.2.2.1 s hs
  · rw [hM]
    refine ⟨⟨f1, f2, f3, f4⟩, fun a j h => f5 a j (fun hh => h (0, 25, 25) (List.Mem.head _) (by show 0 < 10; omega) ⟨hh.1, by rw [hh.2]; decide, by rw [hh.2]; decide⟩), fun a j _ => by rw [f6], fun a h => f7 a (h 5 (by show 5 < 10; omega))⟩
theorem kr_g0 {p : Nat → Nat → Int32} (h : nt_ghost 0 p 10000 = 1) : nt_rk p 6 400 := by
  unfold nt_ghost at h
  rw [if_pos rfl] at h
  by_cases k : nt_gk p 10000
  · rcases k with k | k
    · exact k.2
    · have := k.1
      omega
  · rw [@if_neg _ (Classical.propDecidable _) k] at h
    cases h
theorem kr_0g {p : Nat → Nat → Int32} (h : nt_rk p 6 400) : nt_ghost 0 p 10000 = 1 := by
  unfold nt_ghost
  rw [if_pos rfl]
  exact @if_pos _ (Classical.propDecidable _) (Or.inl ⟨rfl, h⟩) _ _ _
/-- a ghost's cell, read -/
theorem kr_gc {F : sx_F} {M : nt_M} {g : Nat} {i v : Int} (hg : F.2.2.2 = nt_ghost) (h : sx_rd F M (100 + g) i = v) : nt_ghost g (fun h j => nt_I M (F.1 h) j) i = v := by
  unfold sx_rd at h
  rw [if_pos (by omega), hg, show 100 + g - 100 = g from by omega] at h
  exact h
theorem kr_cg {F : sx_F} {M : nt_M} {g : Nat} {i v : Int} (hg : F.2.2.2 = nt_ghost) (h : nt_ghost g (fun h j => nt_I M (F.1 h) j) i = v) : sx_rd F M (100 + g) i = v := by
  unfold sx_rd
  rw [if_pos (by omega), hg, show 100 + g - 100 = g from by omega]
  exact h
