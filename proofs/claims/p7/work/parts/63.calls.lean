/-! calls with so many numbers -/
theorem ly_g0 {X : nt_X} {K : sx_K} {pl : Nat → Nat} {v : Nat → Int} {M : nt_M} {d g dl rv : Nat} {mo : List (Nat × Int × Int)} {rm : List (Nat × Nat)} (hK : sx_KOK X (sx_tbs, sx_gps) K) (hKe : K = (g, dl, ly_D ++ [], (mo, rm), [(2, rv, (0, []))], (ly_C ++ [], ly_R ++ [], (ly_b, []), 11), [(some (0, 0, (0, [(11, 1)])), (ly_C, ly_R, ([(11, -2147483648, 2147483647)], []), 11 + 1))])) (hmo : mo.all (lq_b 66) = true) (hrm : rm.all (fun q => Nat.blt q.1 66 && (!Nat.beq q.1 23 && !Nat.beq q.1 65)) = true) (hd : dl ≤ d) (hB : ly_B pl v M) : ∃ (x : Int32) (M' : nt_M), nt_ev X d g [.ref (pl rv)] M (some (.int x), M') ∧ ly_B pl v M' ∧ ly_fs pl M M' := by
  exact ly_gen (r := v) hK hKe (by decide) hmo hrm hd hB (fun _ _ => rfl) ⟨rfl, trivial⟩ (fun q hq => by cases hq) (ly_ob hB) ly_oc0
theorem ly_g1 {X : nt_X} {K : sx_K} {pl : Nat → Nat} {v : Nat → Int} {M : nt_M} {d g dl rv : Nat} {mo : List (Nat × Int × Int)} {rm : List (Nat × Nat)} (a0 : Int32) (hK : sx_KOK X (sx_tbs, sx_gps) K) (hKe : K = (g, dl, ly_D ++ [], (mo, rm), [(2, rv, (0, [])), (0, 0, (0, [(11, 1)]))], (ly_C ++ [], ly_R ++ [], (ly_b ++ [(11, -2147483648, 2147483647)], []), 12), [(some (0, 0, (0, [(12, 1)])), (ly_C, ly_R, ([(12, -2147483648, 2147483647)], []), 12 + 1))])) (hmo : mo.all (lq_b 66) = true) (hrm : rm.all (fun q => Nat.blt q.1 66 && (!Nat.beq q.1 23 && !Nat.beq q.1 65)) = true) (hd : dl ≤ d) (hB : ly_B pl v M) : ∃ (x : Int32) (M' : nt_M), nt_ev X d g [.ref (pl rv), .int a0] M (some (.int x), M') ∧ ly_B pl v M' ∧ ly_fs pl M M' := by
  obtain ⟨r, hr, h11⟩ : ∃ r : Nat → Int, (∀ s, s < 11 → r s = v s) ∧ r 11 = a0.toInt := ⟨fun s => if s = 11 then a0.toInt else v s, fun s hs => by dsimp only; rw [if_neg (by omega)], rfl⟩
  exact ly_gen (r := r) hK hKe (by decide) hmo hrm hd hB hr ⟨rfl, ⟨a0, rfl, (ly_e1 h11).symm⟩, trivial⟩ (fun q hq => by cases hq) (ly_oba (ly_obr hr (ly_ob hB)) (ly_obI h11)) ly_oc0
theorem ly_g2 {X : nt_X} {K : sx_K} {pl : Nat → Nat} {v : Nat → Int} {M : nt_M} {d g dl rv : Nat} {mo : List (Nat × Int × Int)} {rm : List (Nat × Nat)} (a0 a1 : Int32) (hK : sx_KOK X (sx_tbs, sx_gps) K) (hKe : K = (g, dl, ly_D ++ [], (mo, rm), [(2, rv, (0, [])), (0, 0, (0, [(11, 1)])), (0, 0, (0, [(12, 1)]))], (ly_C ++ [], ly_R ++ [], (ly_b ++ [(11, -2147483648, 2147483647), (12, -2147483648, 2147483647)], []), 13), [(some (0, 0, (0, [(13, 1)])), (ly_C, ly_R, ([(13, -2147483648, 2147483647)], []), 13 + 1))])) (hmo : mo.all (lq_b 66) = true) (hrm : rm.all (fun q => Nat.blt q.1 66 && (!Nat.beq q.1 23 && !Nat.beq q.1 65)) = true) (hd : dl ≤ d) (hB : ly_B pl v M) : ∃ (x : Int32) (M' : nt_M), nt_ev X d g [.ref (pl rv), .int a0, .int a1] M (some (.int x), M') ∧ ly_B pl v M' ∧ ly_fs pl M M' := by
  obtain ⟨r, hr, h11, h12⟩ : ∃ r : Nat → Int, (∀ s, s < 11 → r s = v s) ∧ r 11 = a0.toInt ∧ r 12 = a1.toInt := ⟨fun s => if s = 11 then a0.toInt else if s = 12 then a1.toInt else v s, fun s hs => by dsimp only; rw [if_neg (by omega), if_neg (by omega)], rfl, rfl⟩
  exact ly_gen (r := r) hK hKe (by decide) hmo hrm hd hB hr ⟨rfl, ⟨a0, rfl, (ly_e1 h11).symm⟩, ⟨a1, rfl, (ly_e1 h12).symm⟩, trivial⟩ (fun q hq => by cases hq) (ly_oba (ly_obr hr (ly_ob hB)) (ly_oba (ly_obI h11) (ly_obI h12))) ly_oc0
theorem ly_g5 {X : nt_X} {K : sx_K} {pl : Nat → Nat} {v : Nat → Int} {M : nt_M} {d g dl rv : Nat} {mo : List (Nat × Int × Int)} {rm : List (Nat × Nat)} (a0 a1 a2 a3 a4 : Int32) (hK : sx_KOK X (sx_tbs, sx_gps) K) (hKe : K = (g, dl, ly_D ++ [], (mo, rm), [(2, rv, (0, [])), (0, 0, (0, [(11, 1)])), (0, 0, (0, [(12, 1)])), (0, 0, (0, [(13, 1)])), (0, 0, (0, [(14, 1)])), (0, 0, (0, [(15, 1)]))], (ly_C ++ [], ly_R ++ [], (ly_b ++ [(11, -2147483648, 2147483647), (12, -2147483648, 2147483647), (13, -2147483648, 2147483647), (14, -2147483648, 2147483647), (15, -2147483648, 2147483647)], []), 16), [(some (0, 0, (0, [(16, 1)])), (ly_C, ly_R, ([(16, -2147483648, 2147483647)], []), 16 + 1))])) (hmo : mo.all (lq_b 66) = true) (hrm : rm.all (fun q => Nat.blt q.1 66 && (!Nat.beq q.1 23 && !Nat.beq q.1 65)) = true) (hd : dl ≤ d) (hB : ly_B pl v M) : ∃ (x : Int32) (M' : nt_M), nt_ev X d g [.ref (pl rv), .int a0, .int a1, .int a2, .int a3, .int a4] M (some (.int x), M') ∧ ly_B pl v M' ∧ ly_fs pl M M' := by
  obtain ⟨r, hr, h11, h12, h13, h14, h15⟩ : ∃ r : Nat → Int, (∀ s, s < 11 → r s = v s) ∧ r 11 = a0.toInt ∧ r 12 = a1.toInt ∧ r 13 = a2.toInt ∧ r 14 = a3.toInt ∧ r 15 = a4.toInt := ⟨fun s => if s = 11 then a0.toInt else if s = 12 then a1.toInt else if s = 13 then a2.toInt else if s = 14 then a3.toInt else if s = 15 then a4.toInt else v s, fun s hs => by dsimp only; rw [if_neg (by omega), if_neg (by omega), if_neg (by omega), if_neg (by omega), if_neg (by omega)], rfl, rfl, rfl, rfl, rfl⟩
  exact ly_gen (r := r) hK hKe (by decide) hmo hrm hd hB hr ⟨rfl, ⟨a0, rfl, (ly_e1 h11).symm⟩, ⟨a1, rfl, (ly_e1 h12).symm⟩, ⟨a2, rfl, (ly_e1 h13).symm⟩, ⟨a3, rfl, (ly_e1 h14).symm⟩, ⟨a4, rfl, (ly_e1 h15).symm⟩, trivial⟩ (fun q hq => by cases hq) (ly_oba (ly_obr hr (ly_ob hB)) (ly_oba (ly_obI h11) (ly_oba (ly_obI h12) (ly_oba (ly_obI h13) (ly_oba (ly_obI h14) (ly_obI h15)))))) ly_oc0
theorem ly_g0W {X : nt_X} {K : sx_K} {pl : Nat → Nat} {v : Nat → Int} {M : nt_M} {d g dl rv : Nat} {mo : List (Nat × Int × Int)} {rm : List (Nat × Nat)} (hK : sx_KOK X (sx_tbs, sx_gps) K) (hKe : K = (g, dl, ly_D ++ [], (mo, rm), [(2, rv, (0, []))], (ly_C ++ [], ly_R ++ [], (ly_b, []), 11), [(some (0, 0, (0, [(11, 1)])), (ly_C, ly_R, ([(11, -2147483648, 2147483647)], []), 11 + 1))])) (hmo : mo.all (fun q => Nat.blt q.1 66) = true) (hrm : rm.all (fun q => Nat.blt q.1 66 && (!Nat.beq q.1 23 && !Nat.beq q.1 65)) = true) (hd : dl ≤ d) (hB : ly_B pl v M) : ∃ (x : Int32) (M' : nt_M), nt_ev X d g [.ref (pl rv)] M (some (.int x), M') ∧ ly_B pl v M' ∧ ly_fr 66 pl M M' := by
  exact ly_genW (r := v) hK hKe (by decide) hmo hrm hd hB (fun _ _ => rfl) ⟨rfl, trivial⟩ (fun q hq => by cases hq) (ly_ob hB) ly_oc0
theorem ly_g1W {X : nt_X} {K : sx_K} {pl : Nat → Nat} {v : Nat → Int} {M : nt_M} {d g dl rv : Nat} {mo : List (Nat × Int × Int)} {rm : List (Nat × Nat)} (a0 : Int32) (hK : sx_KOK X (sx_tbs, sx_gps) K) (hKe : K = (g, dl, ly_D ++ [], (mo, rm), [(2, rv, (0, [])), (0, 0, (0, [(11, 1)]))], (ly_C ++ [], ly_R ++ [], (ly_b ++ [(11, -2147483648, 2147483647)], []), 12), [(some (0, 0, (0, [(12, 1)])), (ly_C, ly_R, ([(12, -2147483648, 2147483647)], []), 12 + 1))])) (hmo : mo.all (fun q => Nat.blt q.1 66) = true) (hrm : rm.all (fun q => Nat.blt q.1 66 && (!Nat.beq q.1 23 && !Nat.beq q.1 65)) = true) (hd : dl ≤ d) (hB : ly_B pl v M) : ∃ (x : Int32) (M' : nt_M), nt_ev X d g [.ref (pl rv), .int a0] M (some (.int x), M') ∧ ly_B pl v M' ∧ ly_fr 66 pl M M' := by
  obtain ⟨r, hr, h11⟩ : ∃ r : Nat → Int, (∀ s, s < 11 → r s = v s) ∧ r 11 = a0.toInt := ⟨fun s => if s = 11 then a0.toInt else v s, fun s hs => by dsimp only; rw [if_neg (by omega)], rfl⟩
  exact ly_genW (r := r) hK hKe (by decide) hmo hrm hd hB hr ⟨rfl, ⟨a0, rfl, (ly_e1 h11).symm⟩, trivial⟩ (fun q hq => by cases hq) (ly_oba (ly_obr hr (ly_ob hB)) (ly_obI h11)) ly_oc0
theorem ly_g2W {X : nt_X} {K : sx_K} {pl : Nat → Nat} {v : Nat → Int} {M : nt_M} {d g dl rv : Nat} {mo : List (Nat × Int × Int)} {rm : List (Nat × Nat)} (a0 a1 : Int32) (hK : sx_KOK X (sx_tbs, sx_gps) K) (hKe : K = (g, dl, ly_D ++ [], (mo, rm), [(2, rv, (0, [])), (0, 0, (0, [(11, 1)])), (0, 0, (0, [(12, 1)]))], (ly_C ++ [], ly_R ++ [], (ly_b ++ [(11, -2147483648, 2147483647), (12, -2147483648, 2147483647)], []), 13), [(some (0, 0, (0, [(13, 1)])), (ly_C, ly_R, ([(13, -2147483648, 2147483647)], []), 13 + 1))])) (hmo : mo.all (fun q => Nat.blt q.1 66) = true) (hrm : rm.all (fun q => Nat.blt q.1 66 && (!Nat.beq q.1 23 && !Nat.beq q.1 65)) = true) (hd : dl ≤ d) (hB : ly_B pl v M) : ∃ (x : Int32) (M' : nt_M), nt_ev X d g [.ref (pl rv), .int a0, .int a1] M (some (.int x), M') ∧ ly_B pl v M' ∧ ly_fr 66 pl M M' := by
  obtain ⟨r, hr, h11, h12⟩ : ∃ r : Nat → Int, (∀ s, s < 11 → r s = v s) ∧ r 11 = a0.toInt ∧ r 12 = a1.toInt := ⟨fun s => if s = 11 then a0.toInt else if s = 12 then a1.toInt else v s, fun s hs => by dsimp only; rw [if_neg (by omega), if_neg (by omega)], rfl, rfl⟩
  exact ly_genW (r := r) hK hKe (by decide) hmo hrm hd hB hr ⟨rfl, ⟨a0, rfl, (ly_e1 h11).symm⟩, ⟨a1, rfl, (ly_e1 h12).symm⟩, trivial⟩ (fun q hq => by cases hq) (ly_oba (ly_obr hr (ly_ob hB)) (ly_oba (ly_obI h11) (ly_obI h12))) ly_oc0
theorem ly_g5W {X : nt_X} {K : sx_K} {pl : Nat → Nat} {v : Nat → Int} {M : nt_M} {d g dl rv : Nat} {mo : List (Nat × Int × Int)} {rm : List (Nat × Nat)} (a0 a1 a2 a3 a4 : Int32) (hK : sx_KOK X (sx_tbs, sx_gps) K) (hKe : K = (g, dl, ly_D ++ [], (mo, rm), [(2, rv, (0, [])), (0, 0, (0, [(11, 1)])), (0, 0, (0, [(12, 1)])), (0, 0, (0, [(13, 1)])), (0, 0, (0, [(14, 1)])), (0, 0, (0, [(15, 1)]))], (ly_C ++ [], ly_R ++ [], (ly_b ++ [(11, -2147483648, 2147483647), (12, -2147483648, 2147483647), (13, -2147483648, 2147483647), (14, -2147483648, 2147483647), (15, -2147483648, 2147483647)], []), 16), [(some (0, 0, (0, [(16, 1)])), (ly_C, ly_R, ([(16, -2147483648, 2147483647)], []), 16 + 1))])) (hmo : mo.all (fun q => Nat.blt q.1 66) = true) (hrm : rm.all (fun q => Nat.blt q.1 66 && (!Nat.beq q.1 23 && !Nat.beq q.1 65)) = true) (hd : dl ≤ d) (hB : ly_B pl v M) : ∃ (x : Int32) (M' : nt_M), nt_ev X d g [.ref (pl rv), .int a0, .int a1, .int a2, .int a3, .int a4] M (some (.int x), M') ∧ ly_B pl v M' ∧ ly_fr 66 pl M M' := by
  obtain ⟨r, hr, h11, h12, h13, h14, h15⟩ : ∃ r : Nat → Int, (∀ s, s < 11 → r s = v s) ∧ r 11 = a0.toInt ∧ r 12 = a1.toInt ∧ r 13 = a2.toInt ∧ r 14 = a3.toInt ∧ r 15 = a4.toInt := ⟨fun s => if s = 11 then a0.toInt else if s = 12 then a1.toInt else if s = 13 then a2.toInt else if s = 14 then a3.toInt else if s = 15 then a4.toInt else v s, fun s hs => by dsimp only; rw [if_neg (by omega), if_neg (by omega), if_neg (by omega), if_neg (by omega), if_neg (by omega)], rfl, rfl, rfl, rfl, rfl⟩
  exact ly_genW (r := r) hK hKe (by decide) hmo hrm hd hB hr ⟨rfl, ⟨a0, rfl, (ly_e1 h11).symm⟩, ⟨a1, rfl, (ly_e1 h12).symm⟩, ⟨a2, rfl, (ly_e1 h13).symm⟩, ⟨a3, rfl, (ly_e1 h14).symm⟩, ⟨a4, rfl, (ly_e1 h15).symm⟩, trivial⟩ (fun q hq => by cases hq) (ly_oba (ly_obr hr (ly_ob hB)) (ly_oba (ly_obI h11) (ly_oba (ly_obI h12) (ly_oba (ly_obI h13) (ly_oba (ly_obI h14) (ly_obI h15)))))) ly_oc0
theorem ly_days_C {X : nt_X} {pl : Nat → Nat} {v mk xi : Nat → Int} {M : nt_M} {d : Nat} (a b0 : Int32) (hd : 9 ≤ d) (hB : ly_B pl v M) (hS : ly_S pl mk xi (v 2) M) : ∃ (x : Int32) (M' : nt_M), nt_ev X d 110 [.ref (pl 16), .int a, .int b0] M (some (.int x), M') ∧ ly_B pl v M' ∧ ly_fs pl M M' := by
  have la := a.le_toInt
  have lb := a.toInt_lt
  have hv2 := ly_ob hB (2, 0, 6) (List.mem_of_getElem? (i := 2) rfl)
  dsimp only at hv2
  by_cases c1 : a.toInt = -1
  · obtain ⟨r, hr, h11⟩ : ∃ r : Nat → Int, (∀ s, s < 11 → r s = v s) ∧ r 11 = b0.toInt := ⟨fun s => if s = 11 then b0.toInt else v s, fun s hs => by dsimp only; rw [if_neg (by omega)], rfl⟩
    exact ly_gen (r := r) (ec := []) (ko_w_n_daysN X) rfl (by decide) (by decide +kernel) (by decide +kernel) (Nat.le_trans (by decide) hd) hB hr ⟨rfl, ⟨a, rfl, by rw [sx_c_e]; exact c1⟩, ⟨b0, rfl, (ly_e1 h11).symm⟩, trivial⟩ (fun q hq => by cases hq) (ly_oba (ly_obr hr (ly_ob hB)) (ly_obI h11)) ly_oc0
  by_cases c2 : a.toInt < -1
  · obtain ⟨r, hr, h11, h12⟩ : ∃ r : Nat → Int, (∀ s, s < 11 → r s = v s) ∧ r 11 = a.toInt ∧ r 12 = b0.toInt := ⟨fun s => if s = 11 then a.toInt else if s = 12 then b0.toInt else v s, fun s hs => by dsimp only; rw [if_neg (by omega), if_neg (by omega)], rfl, rfl⟩
    exact ly_gen (r := r) (ec := []) (ko_w_n_daysL X) rfl (by decide) (by decide +kernel) (by decide +kernel) (Nat.le_trans (by decide) hd) hB hr ⟨rfl, ⟨a, rfl, (ly_e1 h11).symm⟩, ⟨b0, rfl, (ly_e1 h12).symm⟩, trivial⟩ (fun q hq => by cases hq) (ly_oba (ly_obr hr (ly_ob hB)) (ly_oba (ly_ob1 (by omega)) (ly_obI h12))) ly_oc0
  by_cases c3 : v 2 ≤ a.toInt
  · obtain ⟨r, hr, h11, h12⟩ : ∃ r : Nat → Int, (∀ s, s < 11 → r s = v s) ∧ r 11 = a.toInt ∧ r 12 = b0.toInt := ⟨fun s => if s = 11 then a.toInt else if s = 12 then b0.toInt else v s, fun s hs => by dsimp only; rw [if_neg (by omega), if_neg (by omega)], rfl, rfl⟩
    exact ly_gen (r := r) (ec := []) (ko_w_n_daysH X) rfl (by decide) (by decide +kernel) (by decide +kernel) (Nat.le_trans (by decide) hd) hB hr ⟨rfl, ⟨a, rfl, (ly_e1 h11).symm⟩, ⟨b0, rfl, (ly_e1 h12).symm⟩, trivial⟩ (fun q hq => by cases hq) (ly_oba (ly_obr hr (ly_ob hB)) (ly_oba (ly_obI h11) (ly_obI h12))) (fun q hq => by
      rw [List.mem_singleton.mp hq]
      show (0 : Int) ≤ 0 + (-1 * r 2 + (1 * r 11 + 0))
      rw [hr 2 (by omega)]
      omega)
  · obtain ⟨r, hr, h11, h12⟩ : ∃ r : Nat → Int, (∀ s, s < 11 → r s = v s) ∧ r 11 = a.toInt ∧ r 12 = b0.toInt := ⟨fun s => if s = 11 then a.toInt else if s = 12 then b0.toInt else v s, fun s hs => by dsimp only; rw [if_neg (by omega), if_neg (by omega)], rfl, rfl⟩
    exact ly_genR (r := r) (ko_w_n_daysR X) rfl (by decide) (by decide +kernel) (by decide +kernel) (Nat.le_trans (by decide) hd) hB hS hr (by omega) (by omega) (fun b => ⟨by show Value.ref (pl 16) = .ref (ly_pl pl b 16); rw [ly_pl1 (by decide)], ⟨a, rfl, (ly_e1 h11).symm⟩, ⟨b0, rfl, (ly_e1 h12).symm⟩, trivial⟩) (ly_oba (ly_obr hr (ly_ob hB)) (ly_oba (ly_ob1 (by omega)) (ly_obI h12))) (fun q hq => by
      rw [List.mem_singleton.mp hq]
      show (0 : Int) ≤ -1 + (1 * r 2 + (-1 * r 11 + 0))
      rw [hr 2 (by omega)]
      omega)
theorem ly_days_R {X : nt_X} {pl : Nat → Nat} {v : Nat → Int} {M : nt_M} {d : Nat} (a b0 : Int32) (hd : 9 ≤ d) (hB : ly_B pl v M) : ∃ (x : Int32) (M' : nt_M), nt_ev X d 186 [.ref (pl 0), .int a, .int b0] M (some (.int x), M') ∧ ly_B pl v M' ∧ ly_fs pl M M' := by
  have la := a.le_toInt
  have lb := a.toInt_lt
  have hv2 := ly_ob hB (2, 0, 6) (List.mem_of_getElem? (i := 2) rfl)
  dsimp only at hv2
  have g0 := hB.2.1.2 0 _ (show ly_E.2.1[0]? = some (11, 0, 0, 9) from rfl)
  have hR : 0 ≤ (nt_I M (pl 0) 2).toInt ∧ (nt_I M (pl 0) 2).toInt ≤ 6 := g0.2.2.2.2 2
  obtain ⟨R, eR⟩ : ∃ R, (nt_I M (pl 0) 2).toInt = R := ⟨_, rfl⟩
  rw [eR] at hR
  by_cases c1 : a.toInt = -1
  · obtain ⟨r, hr, h11⟩ : ∃ r : Nat → Int, (∀ s, s < 11 → r s = v s) ∧ r 11 = b0.toInt := ⟨fun s => if s = 11 then b0.toInt else v s, fun s hs => by dsimp only; rw [if_neg (by omega)], rfl⟩
    exact ly_gen (r := r) (ec := []) (ko_w_daysN X) rfl (by decide) (by decide +kernel) (by decide +kernel) (Nat.le_trans (by decide) hd) hB hr ⟨rfl, ⟨a, rfl, by rw [sx_c_e]; exact c1⟩, ⟨b0, rfl, (ly_e1 h11).symm⟩, trivial⟩ (fun q hq => by cases hq) (ly_oba (ly_obr hr (ly_ob hB)) (ly_obI h11)) ly_oc0
  by_cases c2 : a.toInt < -1
  · obtain ⟨r, hr, h11, h12⟩ : ∃ r : Nat → Int, (∀ s, s < 11 → r s = v s) ∧ r 11 = a.toInt ∧ r 12 = b0.toInt := ⟨fun s => if s = 11 then a.toInt else if s = 12 then b0.toInt else v s, fun s hs => by dsimp only; rw [if_neg (by omega), if_neg (by omega)], rfl, rfl⟩
    exact ly_gen (r := r) (ec := []) (ko_w_daysL X) rfl (by decide) (by decide +kernel) (by decide +kernel) (Nat.le_trans (by decide) hd) hB hr ⟨rfl, ⟨a, rfl, (ly_e1 h11).symm⟩, ⟨b0, rfl, (ly_e1 h12).symm⟩, trivial⟩ (fun q hq => by cases hq) (ly_oba (ly_obr hr (ly_ob hB)) (ly_oba (ly_ob1 (by omega)) (ly_obI h12))) ly_oc0
  by_cases c3 : R ≤ a.toInt
  · obtain ⟨r, hr, h11, h12, h13⟩ : ∃ r : Nat → Int, (∀ s, s < 11 → r s = v s) ∧ r 11 = R ∧ r 12 = a.toInt ∧ r 13 = b0.toInt := ⟨fun s => if s = 11 then R else if s = 12 then a.toInt else if s = 13 then b0.toInt else v s, fun s hs => by dsimp only; rw [if_neg (by omega), if_neg (by omega), if_neg (by omega)], rfl, rfl, rfl⟩
    exact ly_gen (r := r) (ko_w_daysH X) rfl (by decide) (by decide +kernel) (by decide +kernel) (Nat.le_trans (by decide) hd) hB hr ⟨rfl, ⟨a, rfl, (ly_e1 h12).symm⟩, ⟨b0, rfl, (ly_e1 h13).symm⟩, trivial⟩ (fun q hq => by
        rw [List.mem_singleton.mp hq]
        refine ⟨Or.inl (by show 0 < 66; decide), ?_⟩
        dsimp only
        rw [sx_c_e, sx_s_e, h11, ← eR]
        unfold sx_rd
        rw [if_neg (by decide), if_neg (by decide)]
        rfl) (ly_oba (ly_obr hr (ly_ob hB)) (ly_oba (ly_ob1 (by omega)) (ly_oba (ly_obI h12) (ly_obI h13)))) (fun q hq => by
      rw [List.mem_singleton.mp hq]
      show (0 : Int) ≤ 0 + (-1 * r 11 + (1 * r 12 + 0))
      omega)
  · obtain ⟨r, hr, h11, h12, h13⟩ : ∃ r : Nat → Int, (∀ s, s < 11 → r s = v s) ∧ r 11 = R ∧ r 12 = a.toInt ∧ r 13 = b0.toInt := ⟨fun s => if s = 11 then R else if s = 12 then a.toInt else if s = 13 then b0.toInt else v s, fun s hs => by dsimp only; rw [if_neg (by omega), if_neg (by omega), if_neg (by omega)], rfl, rfl, rfl⟩
    exact ly_gen (r := r) (ko_w_daysR X) rfl (by decide) (by decide +kernel) (by decide +kernel) (Nat.le_trans (by decide) hd) hB hr ⟨rfl, ⟨a, rfl, (ly_e1 h12).symm⟩, ⟨b0, rfl, (ly_e1 h13).symm⟩, trivial⟩ (fun q hq => by
        rw [List.mem_singleton.mp hq]
        refine ⟨Or.inl (by show 0 < 66; decide), ?_⟩
        dsimp only
        rw [sx_c_e, sx_s_e, h11, ← eR]
        unfold sx_rd
        rw [if_neg (by decide), if_neg (by decide)]
        rfl) (ly_oba (ly_obr hr (ly_ob hB)) (ly_oba (ly_ob1 (by omega)) (ly_oba (ly_ob1 (by omega)) (ly_obI h13)))) (fun q hq => by
      rw [List.mem_singleton.mp hq]
      show (0 : Int) ≤ -1 + (1 * r 11 + (-1 * r 12 + 0))
      omega)
theorem ly_ahead_C {X : nt_X} {pl : Nat → Nat} {v mk xi : Nat → Int} {M : nt_M} {d : Nat} (a b0 b1 : Int32) (hd : 9 ≤ d) (hB : ly_B pl v M) (hS : ly_S pl mk xi (v 2) M) : ∃ (x : Int32) (M' : nt_M), nt_ev X d 123 [.ref (pl 16), .int a, .int b0, .int b1] M (some (.int x), M') ∧ ly_B pl v M' ∧ ly_fs pl M M' := by
  have la := a.le_toInt
  have lb := a.toInt_lt
  have hv2 := ly_ob hB (2, 0, 6) (List.mem_of_getElem? (i := 2) rfl)
  dsimp only at hv2
  by_cases c1 : a.toInt = -1
  · obtain ⟨r, hr, h11, h12⟩ : ∃ r : Nat → Int, (∀ s, s < 11 → r s = v s) ∧ r 11 = b0.toInt ∧ r 12 = b1.toInt := ⟨fun s => if s = 11 then b0.toInt else if s = 12 then b1.toInt else v s, fun s hs => by dsimp only; rw [if_neg (by omega), if_neg (by omega)], rfl, rfl⟩
    exact ly_gen (r := r) (ec := []) (ko_w_n_aheadN X) rfl (by decide) (by decide +kernel) (by decide +kernel) (Nat.le_trans (by decide) hd) hB hr ⟨rfl, ⟨a, rfl, by rw [sx_c_e]; exact c1⟩, ⟨b0, rfl, (ly_e1 h11).symm⟩, ⟨b1, rfl, (ly_e1 h12).symm⟩, trivial⟩ (fun q hq => by cases hq) (ly_oba (ly_obr hr (ly_ob hB)) (ly_oba (ly_obI h11) (ly_obI h12))) ly_oc0
  by_cases c2 : a.toInt < -1
  · obtain ⟨r, hr, h11, h12, h13⟩ : ∃ r : Nat → Int, (∀ s, s < 11 → r s = v s) ∧ r 11 = a.toInt ∧ r 12 = b0.toInt ∧ r 13 = b1.toInt := ⟨fun s => if s = 11 then a.toInt else if s = 12 then b0.toInt else if s = 13 then b1.toInt else v s, fun s hs => by dsimp only; rw [if_neg (by omega), if_neg (by omega), if_neg (by omega)], rfl, rfl, rfl⟩
    exact ly_gen (r := r) (ec := []) (ko_w_n_aheadL X) rfl (by decide) (by decide +kernel) (by decide +kernel) (Nat.le_trans (by decide) hd) hB hr ⟨rfl, ⟨a, rfl, (ly_e1 h11).symm⟩, ⟨b0, rfl, (ly_e1 h12).symm⟩, ⟨b1, rfl, (ly_e1 h13).symm⟩, trivial⟩ (fun q hq => by cases hq) (ly_oba (ly_obr hr (ly_ob hB)) (ly_oba (ly_ob1 (by omega)) (ly_oba (ly_obI h12) (ly_obI h13)))) ly_oc0
  by_cases c3 : v 2 ≤ a.toInt
  · obtain ⟨r, hr, h11, h12, h13⟩ : ∃ r : Nat → Int, (∀ s, s < 11 → r s = v s) ∧ r 11 = a.toInt ∧ r 12 = b0.toInt ∧ r 13 = b1.toInt := ⟨fun s => if s = 11 then a.toInt else if s = 12 then b0.toInt else if s = 13 then b1.toInt else v s, fun s hs => by dsimp only; rw [if_neg (by omega), if_neg (by omega), if_neg (by omega)], rfl, rfl, rfl⟩
    exact ly_gen (r := r) (ec := []) (ko_w_n_aheadH X) rfl (by decide) (by decide +kernel) (by decide +kernel) (Nat.le_trans (by decide) hd) hB hr ⟨rfl, ⟨a, rfl, (ly_e1 h11).symm⟩, ⟨b0, rfl, (ly_e1 h12).symm⟩, ⟨b1, rfl, (ly_e1 h13).symm⟩, trivial⟩ (fun q hq => by cases hq) (ly_oba (ly_obr hr (ly_ob hB)) (ly_oba (ly_obI h11) (ly_oba (ly_obI h12) (ly_obI h13)))) (fun q hq => by
      rw [List.mem_singleton.mp hq]
      show (0 : Int) ≤ 0 + (-1 * r 2 + (1 * r 11 + 0))
      rw [hr 2 (by omega)]
      omega)
  · obtain ⟨r, hr, h11, h12, h13⟩ : ∃ r : Nat → Int, (∀ s, s < 11 → r s = v s) ∧ r 11 = a.toInt ∧ r 12 = b0.toInt ∧ r 13 = b1.toInt := ⟨fun s => if s = 11 then a.toInt else if s = 12 then b0.toInt else if s = 13 then b1.toInt else v s, fun s hs => by dsimp only; rw [if_neg (by omega), if_neg (by omega), if_neg (by omega)], rfl, rfl, rfl⟩
    exact ly_genR (r := r) (ko_w_n_aheadR X) rfl (by decide) (by decide +kernel) (by decide +kernel) (Nat.le_trans (by decide) hd) hB hS hr (by omega) (by omega) (fun b => ⟨by show Value.ref (pl 16) = .ref (ly_pl pl b 16); rw [ly_pl1 (by decide)], ⟨a, rfl, (ly_e1 h11).symm⟩, ⟨b0, rfl, (ly_e1 h12).symm⟩, ⟨b1, rfl, (ly_e1 h13).symm⟩, trivial⟩) (ly_oba (ly_obr hr (ly_ob hB)) (ly_oba (ly_ob1 (by omega)) (ly_oba (ly_obI h12) (ly_obI h13)))) (fun q hq => by
      rw [List.mem_singleton.mp hq]
      show (0 : Int) ≤ -1 + (1 * r 2 + (-1 * r 11 + 0))
      rw [hr 2 (by omega)]
      omega)
theorem ly_ahead_R {X : nt_X} {pl : Nat → Nat} {v : Nat → Int} {M : nt_M} {d : Nat} (a b0 b1 : Int32) (hd : 9 ≤ d) (hB : ly_B pl v M) : ∃ (x : Int32) (M' : nt_M), nt_ev X d 226 [.ref (pl 0), .int a, .int b0, .int b1] M (some (.int x), M') ∧ ly_B pl v M' ∧ ly_fs pl M M' := by
  have la := a.le_toInt
  have lb := a.toInt_lt
  have hv2 := ly_ob hB (2, 0, 6) (List.mem_of_getElem? (i := 2) rfl)
  dsimp only at hv2
  have g0 := hB.2.1.2 0 _ (show ly_E.2.1[0]? = some (11, 0, 0, 9) from rfl)
  have hR : 0 ≤ (nt_I M (pl 0) 2).toInt ∧ (nt_I M (pl 0) 2).toInt ≤ 6 := g0.2.2.2.2 2
  obtain ⟨R, eR⟩ : ∃ R, (nt_I M (pl 0) 2).toInt = R := ⟨_, rfl⟩
  rw [eR] at hR
  by_cases c1 : a.toInt = -1
  · obtain ⟨r, hr, h11, h12⟩ : ∃ r : Nat → Int, (∀ s, s < 11 → r s = v s) ∧ r 11 = b0.toInt ∧ r 12 = b1.toInt := ⟨fun s => if s = 11 then b0.toInt else if s = 12 then b1.toInt else v s, fun s hs => by dsimp only; rw [if_neg (by omega), if_neg (by omega)], rfl, rfl⟩
    exact ly_gen (r := r) (ec := []) (ko_w_aheadN X) rfl (by decide) (by decide +kernel) (by decide +kernel) (Nat.le_trans (by decide) hd) hB hr ⟨rfl, ⟨a, rfl, by rw [sx_c_e]; exact c1⟩, ⟨b0, rfl, (ly_e1 h11).symm⟩, ⟨b1, rfl, (ly_e1 h12).symm⟩, trivial⟩ (fun q hq => by cases hq) (ly_oba (ly_obr hr (ly_ob hB)) (ly_oba (ly_obI h11) (ly_obI h12))) ly_oc0
  by_cases c2 : a.toInt < -1
  · obtain ⟨r, hr, h11, h12, h13⟩ : ∃ r : Nat → Int, (∀ s, s < 11 → r s = v s) ∧ r 11 = a.toInt ∧ r 12 = b0.toInt ∧ r 13 = b1.toInt := ⟨fun s => if s = 11 then a.toInt else if s = 12 then b0.toInt else if s = 13 then b1.toInt else v s, fun s hs => by dsimp only; rw [if_neg (by omega), if_neg (by omega), if_neg (by omega)], rfl, rfl, rfl⟩
    exact ly_gen (r := r) (ec := []) (ko_w_aheadL X) rfl (by decide) (by decide +kernel) (by decide +kernel) (Nat.le_trans (by decide) hd) hB hr ⟨rfl, ⟨a, rfl, (ly_e1 h11).symm⟩, ⟨b0, rfl, (ly_e1 h12).symm⟩, ⟨b1, rfl, (ly_e1 h13).symm⟩, trivial⟩ (fun q hq => by cases hq) (ly_oba (ly_obr hr (ly_ob hB)) (ly_oba (ly_ob1 (by omega)) (ly_oba (ly_obI h12) (ly_obI h13)))) ly_oc0
  by_cases c3 : R ≤ a.toInt
  · obtain ⟨r, hr, h11, h12, h13, h14⟩ : ∃ r : Nat → Int, (∀ s, s < 11 → r s = v s) ∧ r 11 = R ∧ r 12 = a.toInt ∧ r 13 = b0.toInt ∧ r 14 = b1.toInt := ⟨fun s => if s = 11 then R else if s = 12 then a.toInt else if s = 13 then b0.toInt else if s = 14 then b1.toInt else v s, fun s hs => by dsimp only; rw [if_neg (by omega), if_neg (by omega), if_neg (by omega), if_neg (by omega)], rfl, rfl, rfl, rfl⟩
    exact ly_gen (r := r) (ko_w_aheadH X) rfl (by decide) (by decide +kernel) (by decide +kernel) (Nat.le_trans (by decide) hd) hB hr ⟨rfl, ⟨a, rfl, (ly_e1 h12).symm⟩, ⟨b0, rfl, (ly_e1 h13).symm⟩, ⟨b1, rfl, (ly_e1 h14).symm⟩, trivial⟩ (fun q hq => by
        rw [List.mem_singleton.mp hq]
        refine ⟨Or.inl (by show 0 < 66; decide), ?_⟩
        dsimp only
        rw [sx_c_e, sx_s_e, h11, ← eR]
        unfold sx_rd
        rw [if_neg (by decide), if_neg (by decide)]
        rfl) (ly_oba (ly_obr hr (ly_ob hB)) (ly_oba (ly_ob1 (by omega)) (ly_oba (ly_obI h12) (ly_oba (ly_obI h13) (ly_obI h14))))) (fun q hq => by
      rw [List.mem_singleton.mp hq]
      show (0 : Int) ≤ 0 + (-1 * r 11 + (1 * r 12 + 0))
      omega)
  · obtain ⟨r, hr, h11, h12, h13, h14⟩ : ∃ r : Nat → Int, (∀ s, s < 11 → r s = v s) ∧ r 11 = R ∧ r 12 = a.toInt ∧ r 13 = b0.toInt ∧ r 14 = b1.toInt := ⟨fun s => if s = 11 then R else if s = 12 then a.toInt else if s = 13 then b0.toInt else if s = 14 then b1.toInt else v s, fun s hs => by dsimp only; rw [if_neg (by omega), if_neg (by omega), if_neg (by omega), if_neg (by omega)], rfl, rfl, rfl, rfl⟩
    exact ly_gen (r := r) (ko_w_aheadR X) rfl (by decide) (by decide +kernel) (by decide +kernel) (Nat.le_trans (by decide) hd) hB hr ⟨rfl, ⟨a, rfl, (ly_e1 h12).symm⟩, ⟨b0, rfl, (ly_e1 h13).symm⟩, ⟨b1, rfl, (ly_e1 h14).symm⟩, trivial⟩ (fun q hq => by
        rw [List.mem_singleton.mp hq]
        refine ⟨Or.inl (by show 0 < 66; decide), ?_⟩
        dsimp only
        rw [sx_c_e, sx_s_e, h11, ← eR]
        unfold sx_rd
        rw [if_neg (by decide), if_neg (by decide)]
        rfl) (ly_oba (ly_obr hr (ly_ob hB)) (ly_oba (ly_ob1 (by omega)) (ly_oba (ly_ob1 (by omega)) (ly_oba (ly_obI h13) (ly_obI h14))))) (fun q hq => by
      rw [List.mem_singleton.mp hq]
      show (0 : Int) ≤ -1 + (1 * r 11 + (-1 * r 12 + 0))
      omega)
theorem ly_years_C {X : nt_X} {pl : Nat → Nat} {v mk xi : Nat → Int} {M : nt_M} {d : Nat} (a b0 b1 b2 b3 : Int32) (hd : 9 ≤ d) (hB : ly_B pl v M) (hS : ly_S pl mk xi (v 2) M) : ∃ (x : Int32) (M' : nt_M), nt_ev X d 125 [.ref (pl 16), .int a, .int b0, .int b1, .int b2, .int b3] M (some (.int x), M') ∧ ly_B pl v M' ∧ ly_fs pl M M' := by
  have la := a.le_toInt
  have lb := a.toInt_lt
  have hv2 := ly_ob hB (2, 0, 6) (List.mem_of_getElem? (i := 2) rfl)
  dsimp only at hv2
  by_cases c1 : a.toInt = -1
  · obtain ⟨r, hr, h11, h12, h13, h14⟩ : ∃ r : Nat → Int, (∀ s, s < 11 → r s = v s) ∧ r 11 = b0.toInt ∧ r 12 = b1.toInt ∧ r 13 = b2.toInt ∧ r 14 = b3.toInt := ⟨fun s => if s = 11 then b0.toInt else if s = 12 then b1.toInt else if s = 13 then b2.toInt else if s = 14 then b3.toInt else v s, fun s hs => by dsimp only; rw [if_neg (by omega), if_neg (by omega), if_neg (by omega), if_neg (by omega)], rfl, rfl, rfl, rfl⟩
    exact ly_gen (r := r) (ec := []) (ko_w_n_yearsN X) rfl (by decide) (by decide +kernel) (by decide +kernel) (Nat.le_trans (by decide) hd) hB hr ⟨rfl, ⟨a, rfl, by rw [sx_c_e]; exact c1⟩, ⟨b0, rfl, (ly_e1 h11).symm⟩, ⟨b1, rfl, (ly_e1 h12).symm⟩, ⟨b2, rfl, (ly_e1 h13).symm⟩, ⟨b3, rfl, (ly_e1 h14).symm⟩, trivial⟩ (fun q hq => by cases hq) (ly_oba (ly_obr hr (ly_ob hB)) (ly_oba (ly_obI h11) (ly_oba (ly_obI h12) (ly_oba (ly_obI h13) (ly_obI h14))))) ly_oc0
  by_cases c2 : a.toInt < -1
  · obtain ⟨r, hr, h11, h12, h13, h14, h15⟩ : ∃ r : Nat → Int, (∀ s, s < 11 → r s = v s) ∧ r 11 = a.toInt ∧ r 12 = b0.toInt ∧ r 13 = b1.toInt ∧ r 14 = b2.toInt ∧ r 15 = b3.toInt := ⟨fun s => if s = 11 then a.toInt else if s = 12 then b0.toInt else if s = 13 then b1.toInt else if s = 14 then b2.toInt else if s = 15 then b3.toInt else v s, fun s hs => by dsimp only; rw [if_neg (by omega), if_neg (by omega), if_neg (by omega), if_neg (by omega), if_neg (by omega)], rfl, rfl, rfl, rfl, rfl⟩
    exact ly_gen (r := r) (ec := []) (ko_w_n_yearsL X) rfl (by decide) (by decide +kernel) (by decide +kernel) (Nat.le_trans (by decide) hd) hB hr ⟨rfl, ⟨a, rfl, (ly_e1 h11).symm⟩, ⟨b0, rfl, (ly_e1 h12).symm⟩, ⟨b1, rfl, (ly_e1 h13).symm⟩, ⟨b2, rfl, (ly_e1 h14).symm⟩, ⟨b3, rfl, (ly_e1 h15).symm⟩, trivial⟩ (fun q hq => by cases hq) (ly_oba (ly_obr hr (ly_ob hB)) (ly_oba (ly_ob1 (by omega)) (ly_oba (ly_obI h12) (ly_oba (ly_obI h13) (ly_oba (ly_obI h14) (ly_obI h15)))))) ly_oc0
  by_cases c3 : v 2 ≤ a.toInt
  · obtain ⟨r, hr, h11, h12, h13, h14, h15⟩ : ∃ r : Nat → Int, (∀ s, s < 11 → r s = v s) ∧ r 11 = a.toInt ∧ r 12 = b0.toInt ∧ r 13 = b1.toInt ∧ r 14 = b2.toInt ∧ r 15 = b3.toInt := ⟨fun s => if s = 11 then a.toInt else if s = 12 then b0.toInt else if s = 13 then b1.toInt else if s = 14 then b2.toInt else if s = 15 then b3.toInt else v s, fun s hs => by dsimp only; rw [if_neg (by omega), if_neg (by omega), if_neg (by omega), if_neg (by omega), if_neg (by omega)], rfl, rfl, rfl, rfl, rfl⟩
    exact ly_gen (r := r) (ec := []) (ko_w_n_yearsH X) rfl (by decide) (by decide +kernel) (by decide +kernel) (Nat.le_trans (by decide) hd) hB hr ⟨rfl, ⟨a, rfl, (ly_e1 h11).symm⟩, ⟨b0, rfl, (ly_e1 h12).symm⟩, ⟨b1, rfl, (ly_e1 h13).symm⟩, ⟨b2, rfl, (ly_e1 h14).symm⟩, ⟨b3, rfl, (ly_e1 h15).symm⟩, trivial⟩ (fun q hq => by cases hq) (ly_oba (ly_obr hr (ly_ob hB)) (ly_oba (ly_obI h11) (ly_oba (ly_obI h12) (ly_oba (ly_obI h13) (ly_oba (ly_obI h14) (ly_obI h15)))))) (fun q hq => by
      rw [List.mem_singleton.mp hq]
      show (0 : Int) ≤ 0 + (-1 * r 2 + (1 * r 11 + 0))
      rw [hr 2 (by omega)]
      omega)
  · obtain ⟨r, hr, h11, h12, h13, h14, h15⟩ : ∃ r : Nat → Int, (∀ s, s < 11 → r s = v s) ∧ r 11 = a.toInt ∧ r 12 = b0.toInt ∧ r 13 = b1.toInt ∧ r 14 = b2.toInt ∧ r 15 = b3.toInt := ⟨fun s => if s = 11 then a.toInt else if s = 12 then b0.toInt else if s = 13 then b1.toInt else if s = 14 then b2.toInt else if s = 15 then b3.toInt else v s, fun s hs => by dsimp only; rw [if_neg (by omega), if_neg (by omega), if_neg (by omega), if_neg (by omega), if_neg (by omega)], rfl, rfl, rfl, rfl, rfl⟩
    exact ly_genR (r := r) (ko_w_n_yearsR X) rfl (by decide) (by decide +kernel) (by decide +kernel) (Nat.le_trans (by decide) hd) hB hS hr (by omega) (by omega) (fun b => ⟨by show Value.ref (pl 16) = .ref (ly_pl pl b 16); rw [ly_pl1 (by decide)], ⟨a, rfl, (ly_e1 h11).symm⟩, ⟨b0, rfl, (ly_e1 h12).symm⟩, ⟨b1, rfl, (ly_e1 h13).symm⟩, ⟨b2, rfl, (ly_e1 h14).symm⟩, ⟨b3, rfl, (ly_e1 h15).symm⟩, trivial⟩) (ly_oba (ly_obr hr (ly_ob hB)) (ly_oba (ly_ob1 (by omega)) (ly_oba (ly_obI h12) (ly_oba (ly_obI h13) (ly_oba (ly_obI h14) (ly_obI h15)))))) (fun q hq => by
      rw [List.mem_singleton.mp hq]
      show (0 : Int) ≤ -1 + (1 * r 2 + (-1 * r 11 + 0))
      rw [hr 2 (by omega)]
      omega)
theorem ly_years_R {X : nt_X} {pl : Nat → Nat} {v : Nat → Int} {M : nt_M} {d : Nat} (a b0 b1 b2 b3 : Int32) (hd : 9 ≤ d) (hB : ly_B pl v M) : ∃ (x : Int32) (M' : nt_M), nt_ev X d 231 [.ref (pl 0), .int a, .int b0, .int b1, .int b2, .int b3] M (some (.int x), M') ∧ ly_B pl v M' ∧ ly_fs pl M M' := by
  have la := a.le_toInt
  have lb := a.toInt_lt
  have hv2 := ly_ob hB (2, 0, 6) (List.mem_of_getElem? (i := 2) rfl)
  dsimp only at hv2
  have g0 := hB.2.1.2 0 _ (show ly_E.2.1[0]? = some (11, 0, 0, 9) from rfl)
  have hR : 0 ≤ (nt_I M (pl 0) 2).toInt ∧ (nt_I M (pl 0) 2).toInt ≤ 6 := g0.2.2.2.2 2
  obtain ⟨R, eR⟩ : ∃ R, (nt_I M (pl 0) 2).toInt = R := ⟨_, rfl⟩
  rw [eR] at hR
  by_cases c1 : a.toInt = -1
  · obtain ⟨r, hr, h11, h12, h13, h14⟩ : ∃ r : Nat → Int, (∀ s, s < 11 → r s = v s) ∧ r 11 = b0.toInt ∧ r 12 = b1.toInt ∧ r 13 = b2.toInt ∧ r 14 = b3.toInt := ⟨fun s => if s = 11 then b0.toInt else if s = 12 then b1.toInt else if s = 13 then b2.toInt else if s = 14 then b3.toInt else v s, fun s hs => by dsimp only; rw [if_neg (by omega), if_neg (by omega), if_neg (by omega), if_neg (by omega)], rfl, rfl, rfl, rfl⟩
    exact ly_gen (r := r) (ec := []) (ko_w_yearsN X) rfl (by decide) (by decide +kernel) (by decide +kernel) (Nat.le_trans (by decide) hd) hB hr ⟨rfl, ⟨a, rfl, by rw [sx_c_e]; exact c1⟩, ⟨b0, rfl, (ly_e1 h11).symm⟩, ⟨b1, rfl, (ly_e1 h12).symm⟩, ⟨b2, rfl, (ly_e1 h13).symm⟩, ⟨b3, rfl, (ly_e1 h14).symm⟩, trivial⟩ (fun q hq => by cases hq) (ly_oba (ly_obr hr (ly_ob hB)) (ly_oba (ly_obI h11) (ly_oba (ly_obI h12) (ly_oba (ly_obI h13) (ly_obI h14))))) ly_oc0
  by_cases c2 : a.toInt < -1
  · obtain ⟨r, hr, h11, h12, h13, h14, h15⟩ : ∃ r : Nat → Int, (∀ s, s < 11 → r s = v s) ∧ r 11 = a.toInt ∧ r 12 = b0.toInt ∧ r 13 = b1.toInt ∧ r 14 = b2.toInt ∧ r 15 = b3.toInt := ⟨fun s => if s = 11 then a.toInt else if s = 12 then b0.toInt else if s = 13 then b1.toInt else if s = 14 then b2.toInt else if s = 15 then b3.toInt else v s, fun s hs => by dsimp only; rw [if_neg (by omega), if_neg (by omega), if_neg (by omega), if_neg (by omega), if_neg (by omega)], rfl, rfl, rfl, rfl, rfl⟩
    exact ly_gen (r := r) (ec := []) (ko_w_yearsL X) rfl (by decide) (by decide +kernel) (by decide +kernel) (Nat.le_trans (by decide) hd) hB hr ⟨rfl, ⟨a, rfl, (ly_e1 h11).symm⟩, ⟨b0, rfl, (ly_e1 h12).symm⟩, ⟨b1, rfl, (ly_e1 h13).symm⟩, ⟨b2, rfl, (ly_e1 h14).symm⟩, ⟨b3, rfl, (ly_e1 h15).symm⟩, trivial⟩ (fun q hq => by cases hq) (ly_oba (ly_obr hr (ly_ob hB)) (ly_oba (ly_ob1 (by omega)) (ly_oba (ly_obI h12) (ly_oba (ly_obI h13) (ly_oba (ly_obI h14) (ly_obI h15)))))) ly_oc0
  by_cases c3 : R ≤ a.toInt
  · obtain ⟨r, hr, h11, h12, h13, h14, h15, h16⟩ : ∃ r : Nat → Int, (∀ s, s < 11 → r s = v s) ∧ r 11 = R ∧ r 12 = a.toInt ∧ r 13 = b0.toInt ∧ r 14 = b1.toInt ∧ r 15 = b2.toInt ∧ r 16 = b3.toInt := ⟨fun s => if s = 11 then R else if s = 12 then a.toInt else if s = 13 then b0.toInt else if s = 14 then b1.toInt else if s = 15 then b2.toInt else if s = 16 then b3.toInt else v s, fun s hs => by dsimp only; rw [if_neg (by omega), if_neg (by omega), if_neg (by omega), if_neg (by omega), if_neg (by omega), if_neg (by omega)], rfl, rfl, rfl, rfl, rfl, rfl⟩
    exact ly_gen (r := r) (ko_w_yearsH X) rfl (by decide) (by decide +kernel) (by decide +kernel) (Nat.le_trans (by decide) hd) hB hr ⟨rfl, ⟨a, rfl, (ly_e1 h12).symm⟩, ⟨b0, rfl, (ly_e1 h13).symm⟩, ⟨b1, rfl, (ly_e1 h14).symm⟩, ⟨b2, rfl, (ly_e1 h15).symm⟩, ⟨b3, rfl, (ly_e1 h16).symm⟩, trivial⟩ (fun q hq => by
        rw [List.mem_singleton.mp hq]
        refine ⟨Or.inl (by show 0 < 66; decide), ?_⟩
        dsimp only
        rw [sx_c_e, sx_s_e, h11, ← eR]
        unfold sx_rd
        rw [if_neg (by decide), if_neg (by decide)]
        rfl) (ly_oba (ly_obr hr (ly_ob hB)) (ly_oba (ly_ob1 (by omega)) (ly_oba (ly_obI h12) (ly_oba (ly_obI h13) (ly_oba (ly_obI h14) (ly_oba (ly_obI h15) (ly_obI h16))))))) (fun q hq => by
      rw [List.mem_singleton.mp hq]
      show (0 : Int) ≤ 0 + (-1 * r 11 + (1 * r 12 + 0))
      omega)
  · obtain ⟨r, hr, h11, h12, h13, h14, h15, h16⟩ : ∃ r : Nat → Int, (∀ s, s < 11 → r s = v s) ∧ r 11 = R ∧ r 12 = a.toInt ∧ r 13 = b0.toInt ∧ r 14 = b1.toInt ∧ r 15 = b2.toInt ∧ r 16 = b3.toInt := ⟨fun s => if s = 11 then R else if s = 12 then a.toInt else if s = 13 then b0.toInt else if s = 14 then b1.toInt else if s = 15 then b2.toInt else if s = 16 then b3.toInt else v s, fun s hs => by dsimp only; rw [if_neg (by omega), if_neg (by omega), if_neg (by omega), if_neg (by omega), if_neg (by omega), if_neg (by omega)], rfl, rfl, rfl, rfl, rfl, rfl⟩
    exact ly_gen (r := r) (ko_w_yearsR X) rfl (by decide) (by decide +kernel) (by decide +kernel) (Nat.le_trans (by decide) hd) hB hr ⟨rfl, ⟨a, rfl, (ly_e1 h12).symm⟩, ⟨b0, rfl, (ly_e1 h13).symm⟩, ⟨b1, rfl, (ly_e1 h14).symm⟩, ⟨b2, rfl, (ly_e1 h15).symm⟩, ⟨b3, rfl, (ly_e1 h16).symm⟩, trivial⟩ (fun q hq => by
        rw [List.mem_singleton.mp hq]
        refine ⟨Or.inl (by show 0 < 66; decide), ?_⟩
        dsimp only
        rw [sx_c_e, sx_s_e, h11, ← eR]
        unfold sx_rd
        rw [if_neg (by decide), if_neg (by decide)]
        rfl) (ly_oba (ly_obr hr (ly_ob hB)) (ly_oba (ly_ob1 (by omega)) (ly_oba (ly_ob1 (by omega)) (ly_oba (ly_obI h13) (ly_oba (ly_obI h14) (ly_oba (ly_obI h15) (ly_obI h16))))))) (fun q hq => by
      rw [List.mem_singleton.mp hq]
      show (0 : Int) ≤ -1 + (1 * r 11 + (-1 * r 12 + 0))
      omega)
