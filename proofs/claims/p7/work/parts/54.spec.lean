/-! calls that change what is known -/
theorem ly_obr {v r : Nat → Int} (hr : ∀ s, s < 11 → r s = v s) (h : sx_ob v ly_b) : sx_ob r ly_b := by
  intro q hq
  have l := Nat.blt_eq.mp (List.all_eq_true.mp (show ly_b.all (fun q => Nat.blt q.1 11) = true from by decide +kernel) q hq)
  rw [hr _ l]
  exact h q hq
theorem ly_oba {r : Nat → Int} {a b : sx_B} (h1 : sx_ob r a) (h2 : sx_ob r b) : sx_ob r (a ++ b) := by
  intro q hq
  rcases List.mem_append.mp hq with h | h
  · exact h1 q h
  · exact h2 q h
theorem ly_ob1 {r : Nat → Int} {u : Nat} {lo hi : Int} (h : lo ≤ r u ∧ r u ≤ hi) : sx_ob r [(u, lo, hi)] := by
  intro q hq
  rw [List.mem_singleton.mp hq]
  exact h
theorem ly_obI {r : Nat → Int} {u : Nat} {x : Int32} (h : r u = x.toInt) : sx_ob r [(u, -2147483648, 2147483647)] := by
  refine ly_ob1 ?_
  have l1 := x.le_toInt
  have l2 := x.toInt_lt
  rw [h]
  omega
theorem ly_oc0 {r : Nat → Int} : sx_oc r [] := fun q hq => by cases hq
theorem ly_e1 {r : Nat → Int} {u : Nat} {z : Int} (h : r u = z) : sx_e r (0, [(u, 1)]) = z := (sx_s_e r u).trans h
theorem ly_run {X : nt_X} {K : sx_K} {pl : Nat → Nat} {r : Nat → Int} {M : nt_M} {d : Nat} {vs : List Value} (hK : sx_KOK X (sx_tbs, sx_gps) K) (hd : K.2.1 ≤ d) (hargs : sx_os pl r K.2.2.2.2.1 vs) (hon : sx_on (sx_KE (sx_tbs, sx_gps) K) (pl, M, r, nt_ghost) r K.2.2.2.2.2.1 M) : ∃ o, nt_ev X d K.1 vs M o ∧ ∃ p ∈ K.2.2.2.2.2.2, ∃ r', sx_ov pl r' p.1 o.1 ∧ sx_on (sx_KE (sx_tbs, sx_gps) K) (pl, M, r, nt_ghost) r' p.2 o.2 := hK (pl, M, r, nt_ghost) r vs M d hd rfl rfl rfl hargs hon
theorem ly_ij {K : sx_K} {pl : Nat → Nat} {v : Nat → Int} {M : nt_M} (hD : K.2.2.1 = ly_D) (hB : ly_B pl v M) : sx_ij (sx_KE (sx_tbs, sx_gps) K) pl := by
  intro a b ha hb e
  have ha : a < K.2.2.1.length := ha
  have hb : b < K.2.2.1.length := hb
  rw [hD] at ha hb
  exact hB.1 a b ha hb e
theorem ly_nil {pl : Nat → Nat} {M : nt_M} : ∀ h q, ([] : sx_D)[h]? = some q → pl (66 + h) < nt_n M ∧ nt_k M (pl (66 + h)) = q.1 ∧ (q.2.1 ≤ (nt_l M (pl (66 + h)) : Int) ∧ (nt_l M (pl (66 + h)) : Int) ≤ q.2.2.1) ∧ nt_l M (pl (66 + h)) < 2147483648 ∧ ∀ j, (sx_iv (sx_tbs.getD q.2.2.2 []) j).1 ≤ (nt_I M (pl (66 + h)) j).toInt ∧ (nt_I M (pl (66 + h)) j).toInt ≤ (sx_iv (sx_tbs.getD q.2.2.2 []) j).2 := fun h q hq => by
  rw [List.getElem?_nil] at hq
  cases hq
theorem ly_oiC {K : sx_K} {F : sx_F} {pl : Nat → Nat} {r' v' : Nat → Int} {M' : nt_M} {more : sx_I} (hpl : ∀ h, h < 66 → F.1 h = pl h) (hF : F.2.2.2 = nt_ghost) (h : sx_oi (sx_KE (sx_tbs, sx_gps) K) F r' (ly_C ++ more) M') (hr : ∀ s, s < 11 → r' s = v' s) : sx_oi ly_E (pl, M', v', nt_ghost) v' ly_C M' :=
  ly_oi2 (c0 := (0, [(0, 1)])) (c1 := (0, [(1, 1)])) (c2 := (0, [(2, 1)])) (c3 := (0, [(3, 1)])) (c4 := (0, [(4, 1)])) (c5 := (0, [(5, 1)])) (c6 := (0, [(6, 1)])) (c7 := (0, [(7, 1)])) (c8 := (0, [(8, 1)])) (c9 := (0, [(9, 1)])) (c10 := (0, [(10, 1)])) hpl hF h (ly_e1 (hr 0 (by omega))) (ly_e1 (hr 1 (by omega))) (ly_e1 (hr 2 (by omega))) (ly_e1 (hr 3 (by omega))) (ly_e1 (hr 4 (by omega))) (ly_e1 (hr 5 (by omega))) (ly_e1 (hr 6 (by omega))) (ly_e1 (hr 7 (by omega))) (ly_e1 (hr 8 (by omega))) (ly_e1 (hr 9 (by omega))) (ly_e1 (hr 10 (by omega)))
theorem ly_seedC {X : nt_X} {pl : Nat → Nat} {v : Nat → Int} {M : nt_M} {d : Nat} (x : Int32) (hB : ly_B pl v M) : ∃ (y : Int32) (M' : nt_M) (v' : Nat → Int), nt_ev X d 124 [.ref (pl 16), .int x] M (some (.int y), M') ∧ ly_B pl v' M' ∧ ly_fs pl M M' ∧ (∀ s, s < 11 → s ≠ 1 → v' s = v s) ∧ ((x.toInt < 0 ∧ y.toInt = -1 ∧ v' 1 = v 1) ∨ (0 ≤ x.toInt ∧ y.toInt = v 1 ∧ v' 1 = x.toInt)) := by
  obtain ⟨r, hr, h11⟩ : ∃ r : Nat → Int, (∀ s, s < 11 → r s = v s) ∧ r 11 = x.toInt := ⟨fun s => if s = 11 then x.toInt else v s, fun s hs => if_neg (by omega), if_pos rfl⟩
  have hij := ly_ij (K := kk_w_n_seed) rfl hB
  have hon := ly_app (K := kk_w_n_seed) (ed := []) (ec := []) (er := []) rfl hB (fun _ _ => rfl) hr hij ly_nil (fun q hq => by cases hq) (fun q hq => by cases hq) (ly_oba (ly_obr hr (ly_ob hB)) (ly_obI h11)) ly_oc0
  obtain ⟨o, h1, p, hp, r', h2, h3⟩ := ly_run (ko_w_n_seed X) (Nat.zero_le d) (vs := [.ref (pl 16), .int x]) ⟨rfl, ⟨x, rfl, (ly_e1 h11).symm⟩, trivial⟩ hon
  have hr' : ∀ s, s < 12 → r' s = r s := fun s hs => h3.2.2.2.2.2.1 s hs
  have fr := ly_fsm (Nat.le_of_eq rfl) hij (by decide +kernel) (by decide +kernel) h3.2.2.2.2.2.2
  obtain ⟨ov, M'⟩ := o
  rcases List.mem_cons.mp hp with rfl | hp
  · cases ov with
    | none => exact h2.elim
    | some w =>
      obtain ⟨y, rfl, hy⟩ := h2
      have c := h3.2.2.2.2.1.2 ((-1), [(11, (-1))]) (List.Mem.head _)
      have c : (0 : Int) ≤ -1 + (-1 * r' 11 + 0) := c
      have e11 := hr' 11 (by omega)
      refine ⟨y, M', v, h1, ly_bk (ed := []) rfl rfl (fun _ _ => rfl) h3 (ly_oiC (more := []) (fun _ _ => rfl) rfl h3.2.2.1 (fun s hs => (hr' s (by omega)).trans (hr s hs))) (ly_or2 (more := []) (fun _ _ => rfl) h3.2.2.2.1), fr, fun _ _ _ => rfl, Or.inl ⟨by omega, hy.trans (sx_c_e _ _), rfl⟩⟩
  · rw [List.mem_singleton.mp hp] at h2 h3
    cases ov with
    | none => exact h2.elim
    | some w =>
      obtain ⟨y, rfl, hy⟩ := h2
      have c := h3.2.2.2.2.1.2 (0, [(11, 1)]) (List.Mem.head _)
      have c : (0 : Int) ≤ 0 + (1 * r' 11 + 0) := c
      have e11 := hr' 11 (by omega)
      have hs : ∀ s, s < 11 → r' s = v s := fun s hs => (hr' s (by omega)).trans (hr s hs)
      refine ⟨y, M', fun s => if s = 1 then x.toInt else v s, h1, ly_bk (ed := []) rfl rfl (fun _ _ => rfl) h3 (ly_oi2 (more := []) (fun _ _ => rfl) rfl h3.2.2.1 (ly_e1 (hs 0 (by omega))) (ly_e1 (by rw [e11, h11]; rfl)) (ly_e1 (hs 2 (by omega))) (ly_e1 (hs 3 (by omega))) (ly_e1 (hs 4 (by omega))) (ly_e1 (hs 5 (by omega))) (ly_e1 (hs 6 (by omega))) (ly_e1 (hs 7 (by omega))) (ly_e1 (hs 8 (by omega))) (ly_e1 (hs 9 (by omega))) (ly_e1 (hs 10 (by omega)))) (ly_or2 (more := []) (fun _ _ => rfl) h3.2.2.2.1), fr, fun s _ h => if_neg h, Or.inr ⟨by omega, hy.trans (ly_e1 (hs 1 (by omega))), if_pos rfl⟩⟩
theorem ly_seedR {X : nt_X} {pl : Nat → Nat} {v : Nat → Int} {M : nt_M} {d : Nat} (x : Int32) (hB : ly_B pl v M) : ∃ (y : Int32) (M' : nt_M) (v' : Nat → Int), nt_ev X d 230 [.ref (pl 0), .int x] M (some (.int y), M') ∧ ly_B pl v' M' ∧ ly_fs pl M M' ∧ (∀ s, s < 11 → s ≠ 0 → v' s = v s) ∧ ((x.toInt < 0 ∧ y.toInt = -1 ∧ v' 0 = v 0) ∨ (0 ≤ x.toInt ∧ y.toInt = v 0 ∧ v' 0 = x.toInt)) := by
  obtain ⟨r, hr, h11⟩ : ∃ r : Nat → Int, (∀ s, s < 11 → r s = v s) ∧ r 11 = x.toInt := ⟨fun s => if s = 11 then x.toInt else v s, fun s hs => if_neg (by omega), if_pos rfl⟩
  have hij := ly_ij (K := kk_w_seed) rfl hB
  have hon := ly_app (K := kk_w_seed) (ed := []) (ec := []) (er := []) rfl hB (fun _ _ => rfl) hr hij ly_nil (fun q hq => by cases hq) (fun q hq => by cases hq) (ly_oba (ly_obr hr (ly_ob hB)) (ly_obI h11)) ly_oc0
  obtain ⟨o, h1, p, hp, r', h2, h3⟩ := ly_run (ko_w_seed X) (Nat.zero_le d) (vs := [.ref (pl 0), .int x]) ⟨rfl, ⟨x, rfl, (ly_e1 h11).symm⟩, trivial⟩ hon
  have hr' : ∀ s, s < 12 → r' s = r s := fun s hs => h3.2.2.2.2.2.1 s hs
  have fr := ly_fsm (Nat.le_of_eq rfl) hij (by decide +kernel) (by decide +kernel) h3.2.2.2.2.2.2
  obtain ⟨ov, M'⟩ := o
  rcases List.mem_cons.mp hp with rfl | hp
  · cases ov with
    | none => exact h2.elim
    | some w =>
      obtain ⟨y, rfl, hy⟩ := h2
      have c := h3.2.2.2.2.1.2 ((-1), [(11, (-1))]) (List.Mem.head _)
      have c : (0 : Int) ≤ -1 + (-1 * r' 11 + 0) := c
      have e11 := hr' 11 (by omega)
      refine ⟨y, M', v, h1, ly_bk (ed := []) rfl rfl (fun _ _ => rfl) h3 (ly_oiC (more := []) (fun _ _ => rfl) rfl h3.2.2.1 (fun s hs => (hr' s (by omega)).trans (hr s hs))) (ly_or2 (more := []) (fun _ _ => rfl) h3.2.2.2.1), fr, fun _ _ _ => rfl, Or.inl ⟨by omega, hy.trans (sx_c_e _ _), rfl⟩⟩
  · rw [List.mem_singleton.mp hp] at h2 h3
    cases ov with
    | none => exact h2.elim
    | some w =>
      obtain ⟨y, rfl, hy⟩ := h2
      have c := h3.2.2.2.2.1.2 (0, [(11, 1)]) (List.Mem.head _)
      have c : (0 : Int) ≤ 0 + (1 * r' 11 + 0) := c
      have e11 := hr' 11 (by omega)
      have hs : ∀ s, s < 11 → r' s = v s := fun s hs => (hr' s (by omega)).trans (hr s hs)
      refine ⟨y, M', fun s => if s = 0 then x.toInt else v s, h1, ly_bk (ed := []) rfl rfl (fun _ _ => rfl) h3 (ly_oi2 (more := []) (fun _ _ => rfl) rfl h3.2.2.1 (ly_e1 (by rw [e11, h11]; rfl)) (ly_e1 (hs 1 (by omega))) (ly_e1 (hs 2 (by omega))) (ly_e1 (hs 3 (by omega))) (ly_e1 (hs 4 (by omega))) (ly_e1 (hs 5 (by omega))) (ly_e1 (hs 6 (by omega))) (ly_e1 (hs 7 (by omega))) (ly_e1 (hs 8 (by omega))) (ly_e1 (hs 9 (by omega))) (ly_e1 (hs 10 (by omega)))) (ly_or2 (more := []) (fun _ _ => rfl) h3.2.2.2.1), fr, fun s _ h => if_neg h, Or.inr ⟨by omega, hy.trans (ly_e1 (hs 0 (by omega))), if_pos rfl⟩⟩
