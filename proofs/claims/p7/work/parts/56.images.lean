/-! images -/
theorem ly_lw0 {r : Nat → Int} {L : sx_L} (h : sx_lw 0 L = true) : sx_e r L = L.1 := by
  obtain ⟨c, l⟩ := L
  cases l with
  | nil => exact sx_c_e r c
  | cons q t =>
    unfold sx_lw at h
    rw [List.all_cons, Bool.and_eq_true] at h
    have := Nat.blt_eq.mp h.1
    omega
theorem ly_RI_ok : ly_RI.all (fun q => Nat.ble 66 q.1.1 && (Nat.blt q.1.1 83 && (Nat.ble 68 q.2 && (Nat.ble q.2 83 && (sx_lw 0 q.1.2 && decide (0 ≤ q.1.2.1)))))) = true := by decide +kernel
theorem ly_erI {E : sx_E} {pl : Nat → Nat} {r : Nat → Int} {M : nt_M} {a k : Nat} {x : Int} (hl : E.2.1.length = 83) (hk : nt_R M (pl 65) k = some a) (h : ly_im a x M) : sx_or E (ly_pl pl a) r (((65, ((k : Int), [])), 67) :: ly_RI) M := by
  intro q hq
  rcases List.mem_cons.mp hq with rfl | hq
  · refine ⟨⟨by rw [hl]; show 65 < 83; decide, by rw [hl]; show 67 ≤ 83; decide⟩, by dsimp only; rw [sx_c_e]; omega, ?_⟩
    dsimp only
    rw [sx_c_e, ly_pl1 (by decide), show ((k : Int)).toNat = k from by omega, hk]
    rfl
  · have l := List.all_eq_true.mp ly_RI_ok q hq
    rw [Bool.and_eq_true, Bool.and_eq_true, Bool.and_eq_true, Bool.and_eq_true, Bool.and_eq_true] at l
    obtain ⟨l1, l2, l3, l4, l5, l6⟩ := l
    have l1 := Nat.le_of_ble_eq_true l1
    have l2 := Nat.blt_eq.mp l2
    have l3 := Nat.le_of_ble_eq_true l3
    have l4 := Nat.le_of_ble_eq_true l4
    have l6 := of_decide_eq_true l6
    refine ⟨⟨by rw [hl]; exact l2, by rw [hl]; exact l4⟩, by rw [ly_lw0 l5]; exact l6, ?_⟩
    rw [ly_lw0 l5, ly_pl2 l1, h.2.1 q hq]
    unfold sx_rq
    rw [if_neg (by omega), ly_pl2 (by omega), show q.2 - 1 - 66 = q.2 - 67 from by omega]
theorem ly_ecI {E : sx_E} {pl : Nat → Nat} {r : Nat → Int} {M : nt_M} {a : Nat} {x : Int} (hl : E.2.1.length = 83) (hx : r 11 = x) (h : ly_im a x M) : sx_oi E (ly_pl pl a, M, r, nt_ghost) r [((66, (6, [])), (0, [(11, 1)]))] M := by
  intro q hq
  rw [List.mem_singleton.mp hq]
  refine ⟨Or.inl (by rw [hl]; decide), ?_⟩
  dsimp only
  rw [sx_c_e, sx_s_e, hx]
  unfold sx_rd
  rw [if_neg (by decide), if_neg (by decide)]
  dsimp only
  rw [ly_pl2 (by decide)]
  exact h.2.2
theorem ly_hpI {pl : Nat → Nat} {M : nt_M} {a : Nat} {x : Int} (h : ly_im a x M) : ∀ h q, ly_ED[h]? = some q → ly_pl pl a (66 + h) < nt_n M ∧ nt_k M (ly_pl pl a (66 + h)) = q.1 ∧ (q.2.1 ≤ (nt_l M (ly_pl pl a (66 + h)) : Int) ∧ (nt_l M (ly_pl pl a (66 + h)) : Int) ≤ q.2.2.1) ∧ nt_l M (ly_pl pl a (66 + h)) < 2147483648 ∧ ∀ j, (sx_iv (sx_tbs.getD q.2.2.2 []) j).1 ≤ (nt_I M (ly_pl pl a (66 + h)) j).toInt ∧ (nt_I M (ly_pl pl a (66 + h)) j).toInt ≤ (sx_iv (sx_tbs.getD q.2.2.2 []) j).2 := fun h' q hq => by
  rw [ly_pl2 (by omega), show 66 + h' - 66 = h' from by omega]
  exact h.1 h' q hq
/-- other images stay -/
def lq_J (pl : Nat → Nat) (k : Nat) (M M' : nt_M) : Prop := (∀ k', k' < 4 → k' ≠ k → nt_R M' (pl 65) k' = nt_R M (pl 65) k') ∧ ∀ k' a', k' < 4 → k' ≠ k → nt_R M (pl 65) k' = some a' → ∀ j, nt_I M' a' j = nt_I M a' j
/-- the run that copies into image k -/
def lq_I (X : nt_X) (pl : Nat → Nat) (v : Nat → Int) (d k : Nat) (y : Int32) (M M' : nt_M) : Prop := ∃ (M2 : nt_M) (a : Nat) (x : Int), ly_B pl v M2 ∧ nt_R M2 (pl 65) k = some a ∧ 66 ≤ a ∧ ly_im a x M2 ∧ nt_ev X d 127 [.ref (pl 16), .int (nI k)] M2 (some (.int y), M') ∧ (∀ g j, g < 66 → nt_I M2 (pl g) j = nt_I M (pl g) j) ∧ nt_R M' (pl 65) k = some a ∧ lq_J pl k M M' ∧ (∀ b, b < nt_n M → nt_I M2 b = nt_I M b ∧ nt_l M2 b = nt_l M b) ∧ nt_n M ≤ nt_n M2 ∧ (∀ k', k' ≠ k → nt_R M2 (pl 65) k' = nt_R M (pl 65) k') ∧ ∀ u, nt_R M2 (pl 23) u = nt_R M (pl 23) u
/-- the class: an image that is there is made again -/
theorem ly_imgC {X : nt_X} {K : sx_K} {pl : Nat → Nat} {v mk xi : Nat → Int} {M : nt_M} {d k : Nat} {mo : List (Nat × Int × Int)} (hK : sx_KOK X (sx_tbs, sx_gps) K) (hKe : K = (127, 3, ly_D ++ ly_ED, (mo, []), [(2, 16, (0, [])), (0, 0, ((k : Int), []))], (ly_C ++ [((66, (6, [])), (0, [(11, 1)]))], ly_R ++ (((65, ((k : Int), [])), 67) :: ly_RI), (ly_b ++ [(11, -2147483648, 2147483647)], []), 12), [(some (0, 0, (0, [(12, 1)])), (ly_C ++ [((66, (6, [])), (0, [(1, 1)]))], ly_R ++ (((65, ((k : Int), [])), 67) :: ly_RI), ([(12, -2147483648, 2147483647)], []), 13))])) (hmo : mo.all (lq_b 83) = true) (hk : k < 4) (hd : 3 ≤ d) (hB : ly_B pl v M) (hS : ly_S pl mk xi (v 2) M) (hm : mk k = 1) : ∃ (y : Int32) (M' : nt_M), nt_ev X d 127 [.ref (pl 16), .int (nI k)] M (some (.int y), M') ∧ lq_T pl M M' ∧ lq_I X pl v d k y M M' ∧ ly_B pl v M' ∧ ly_S pl mk (fun i => if i = k then v 1 else xi i) (v 2) M' := by
  obtain ⟨⟨p1, p2, p3, p4⟩, ⟨p5, p6⟩, T, p7, p8⟩ := hS
  rcases p7 k hk with ⟨_, c⟩ | ⟨a, c1, c2, c3, c4, c5, c6⟩
  · omega
  obtain ⟨r, hr, h11⟩ : ∃ r : Nat → Int, (∀ s, s < 11 → r s = v s) ∧ r 11 = xi k := ⟨fun s => if s = 11 then xi k else v s, fun s hs => if_neg (by omega), if_pos rfl⟩
  have hlen : (sx_KE (sx_tbs, sx_gps) K).2.1.length = 83 := by rw [hKe]; rfl
  have hij : sx_ij (sx_KE (sx_tbs, sx_gps) K) (ly_pl pl a) := ly_pij p1 c3 hB.1
  have hon := ly_app hKe hB (fun h hh => ly_pl1 hh) hr hij (ly_hpI c6) (ly_ecI hlen h11 c6) (ly_erI hlen c1 c6) (ly_oba (ly_obr hr (ly_ob hB)) (ly_obI (x := nt_I M a 6) (h11.trans c6.2.2.symm))) ly_oc0
  subst hKe
  obtain ⟨o, k1, p, hp, r', k2, k3⟩ := ly_run hK hd (vs := [.ref (pl 16), .int (nI k)]) ⟨by show Value.ref (pl 16) = .ref (ly_pl pl a 16); rw [ly_pl1 (by decide)], ⟨nI k, rfl, by rw [nI_toInt (by omega)]; exact (sx_c_e r k).symm⟩, trivial⟩ hon
  rw [List.mem_singleton.mp hp] at k2 k3
  obtain ⟨ov, M'⟩ := o
  cases ov with
  | none => exact k2.elim
  | some w =>
    obtain ⟨y, rfl, hy⟩ := k2
    have hr' : ∀ s, s < 11 → r' s = v s := fun s hs => (k3.2.2.2.2.2.1 s (by show s < 12; omega)).trans (hr s hs)
    obtain ⟨⟨f1, f2, f3, f4⟩, f5, f6⟩ := ly_frm (n := 83) (Nat.le_of_eq rfl) (by decide) hij (lq_b1 hmo) rfl k3.2.2.2.2.2.2
    have hJ : lq_J pl k M M' := by
      refine ⟨fun k' hk' _ => ?_, fun k' a' hk' hne ha' j => ?_⟩
      · have e65 := f6 65 k' (Or.inr rfl)
        rw [ly_pl1 (by decide)] at e65
        exact e65
      · rcases p7 k' hk' with ⟨c', _⟩ | ⟨a2, c1', c2', c3', c4', c5', c6'⟩
        · rw [ha'] at c'
          cases c'
        · rw [ha'] at c1'
          cases c1'
          refine (f5 a' (fun g hg e2 => ?_)).1 j
          by_cases c : g < 66
          · rw [ly_pl1 c] at e2
            have := p1 g c
            omega
          · rw [ly_pl2 (by omega)] at e2
            have t2 := c5 (g - 66) (by omega)
            rw [← e2] at t2
            have t1 := c5' 0 (by omega)
            rw [Nat.add_zero] at t1
            omega
    have r65 : nt_R M' (pl 65) k = some a := by
      have e65 := f6 65 k (Or.inr rfl)
      rw [ly_pl1 (by decide)] at e65
      rw [e65]
      exact c1
    refine ⟨y, M', k1, lq_Tpl (lq_Tm (by show 66 ≤ 83; omega) hij hmo k3.2.2.2.2.2.2), ⟨M, a, xi k, hB, c1, c3, c6, k1, fun _ _ _ => rfl, r65, hJ, fun _ _ => ⟨rfl, rfl⟩, Nat.le_refl _, fun _ _ => rfl, fun _ => rfl⟩, ly_bk (ed := ly_ED) rfl rfl (fun h hh => ly_pl1 hh) k3 (ly_oiC (fun h hh => ly_pl1 hh) rfl k3.2.2.1 hr') (ly_or2 (fun h hh => ly_pl1 hh) k3.2.2.2.1), ⟨p1, p2, p3, by rw [f1]; exact p4⟩, ⟨by rw [f1]; exact p5, by rw [f2]; exact p6⟩, T, fun k' hk' => ?_, fun u hu => ?_⟩
    · have e65 := f6 65 k' (Or.inr rfl)
      rw [ly_pl1 (by decide)] at e65
      rw [e65, f1]
      by_cases e : k' = k
      · subst e
        refine Or.inr ⟨a, c1, c2, c3, c4, c5, ⟨fun h q hq => ?_, fun q hq => ?_, ?_⟩⟩
        · have := k3.2.1.2 (66 + h) q (by
            show (ly_D ++ ly_ED)[66 + h]? = some q
            rw [List.getElem?_append_right (by show 66 ≤ 66 + h; omega), show 66 + h - ly_D.length = h from by show 66 + h - 66 = h; omega]
            exact hq)
          dsimp only at this
          rw [ly_pl2 (by omega), show 66 + h - 66 = h from by omega] at this
          exact this
        · have l := List.all_eq_true.mp ly_RI_ok q hq
          rw [Bool.and_eq_true, Bool.and_eq_true, Bool.and_eq_true, Bool.and_eq_true, Bool.and_eq_true] at l
          obtain ⟨l1, l2, l3, l4, l5, l6⟩ := l
          have l1 := Nat.le_of_ble_eq_true l1
          have l3 := Nat.le_of_ble_eq_true l3
          have h := (k3.2.2.2.1 q (List.mem_append_right _ (List.mem_cons_of_mem _ hq))).2.2
          dsimp only at h
          rw [ly_lw0 l5, ly_pl2 l1] at h
          rw [h]
          unfold sx_rq
          rw [if_neg (by omega)]
          show some (ly_pl pl a (q.2 - 1)) = _
          rw [ly_pl2 (by omega), show q.2 - 1 - 66 = q.2 - 67 from by omega]
        · have h := (k3.2.2.1 ((66, (6, [])), (0, [(1, 1)])) (List.mem_append_right _ (List.Mem.head _))).2
          dsimp only at h
          rw [sx_c_e, sx_s_e, hr' 1 (by omega)] at h
          unfold sx_rd at h
          rw [if_neg (by decide), if_neg (by decide)] at h
          dsimp only at h
          rw [ly_pl2 (by decide)] at h
          show (nt_I M' a 6).toInt = (if k' = k' then v 1 else xi k')
          rw [if_pos rfl]
          exact h
      · rcases p7 k' hk' with c | ⟨a', d1, d2, d3, d4, d5, d6⟩
        · exact Or.inl c
        · have out : ∀ h, h < 17 → ∀ g, g < 83 → a' + h ≠ ly_pl pl a g := by
            intro h hh g hg e2
            by_cases c : g < 66
            · rw [ly_pl1 c] at e2
              have := p1 g c
              omega
            · rw [ly_pl2 (by omega)] at e2
              have t1 := d5 h hh
              have t2 := c5 (g - 66) (by omega)
              rw [e2, t2] at t1
              exact e t1.symm
          refine Or.inr ⟨a', d1, d2, d3, d4, d5, ?_⟩
          show ly_im a' (if k' = k then v 1 else xi k') M'
          rw [if_neg e]
          exact ly_im_fr f1 f3 f4 (fun h hh => (f5 _ (out h hh)).1) (fun h hh => (f5 _ (out h hh)).2) d6
    · obtain ⟨b, d1, d2, d3, d4, d5, d6⟩ := p8 u hu
      have e23 := f6 23 u (Or.inl rfl)
      rw [ly_pl1 (by decide)] at e23
      rw [e23, f1]
      have out : ∀ h, h < 2 → ∀ g, g < 83 → b + h ≠ ly_pl pl a g := by
        intro h hh g hg e2
        by_cases c : g < 66
        · rw [ly_pl1 c] at e2
          have := p1 g c
          omega
        · rw [ly_pl2 (by omega)] at e2
          have t2 := c5 (g - 66) (by omega)
          rw [← e2] at t2
          have t1 : T (b + h) = 4 + u := by
            rcases (by omega : h = 0 ∨ h = 1) with rfl | rfl
            · exact d4
            · exact d5
          omega
      exact ⟨b, d1, d2, d3, d4, d5, ly_ru_fr f1 f3 f4 (fun h hh => (f5 _ (out h hh)).1) (f5 b (out 0 (by omega))).2 d6⟩
/-- the class: back to an image that is there -/
theorem ly_backC {X : nt_X} {K : sx_K} {pl : Nat → Nat} {v mk xi : Nat → Int} {M : nt_M} {d k : Nat} {mo : List (Nat × Int × Int)} (hK : sx_KOK X (sx_tbs, sx_gps) K) (hKe : K = (128, 3, ly_D ++ ly_ED, (mo, []), [(2, 16, (0, [])), (0, 0, ((k : Int), []))], (ly_C ++ [((66, (6, [])), (0, [(11, 1)]))], ly_R ++ (((65, ((k : Int), [])), 67) :: ly_RI), (ly_b ++ [(11, -2147483648, 2147483647)], []), 12), [(some (0, 0, (0, [(12, 1)])), ([((4, (9, [])), (0, [(0, 1)])), ((31, (6, [])), (0, [(11, 1)])), ((16, (4, [])), (0, [(2, 1)])), ((15, (0, [])), (0, [(3, 1)])), ((15, (1, [])), (0, [(4, 1)])), ((15, (2, [])), (0, [(5, 1)])), ((15, (3, [])), (0, [(6, 1)])), ((14, (9, [])), (0, [(7, 1)])), ((14, (221, [])), (0, [(8, 1)])), ((14, (433, [])), (0, [(9, 1)])), ((14, (645, [])), (0, [(10, 1)])), ((100, (10000, [])), (1, []))] ++ [((66, (6, [])), (0, [(11, 1)]))], ly_R ++ (((65, ((k : Int), [])), 67) :: ly_RI), ([(12, -2147483648, 2147483647)], []), 13))])) (hmo : mo.all (lq_b 66) = true) (hk : k < 4) (hd : 3 ≤ d) (hB : ly_B pl v M) (hS : ly_S pl mk xi (v 2) M) (hm : mk k = 1) : ∃ (y : Int32) (M' : nt_M), nt_ev X d 128 [.ref (pl 16), .int (nI k)] M (some (.int y), M') ∧ ly_B pl (fun s => if s = 1 then xi k else v s) M' ∧ ly_fs pl M M' := by
  obtain ⟨⟨p1, p2, p3, p4⟩, ⟨p5, p6⟩, T, p7, p8⟩ := hS
  rcases p7 k hk with ⟨_, c⟩ | ⟨a, c1, c2, c3, c4, c5, c6⟩
  · omega
  obtain ⟨r, hr, h11⟩ : ∃ r : Nat → Int, (∀ s, s < 11 → r s = v s) ∧ r 11 = xi k := ⟨fun s => if s = 11 then xi k else v s, fun s hs => if_neg (by omega), if_pos rfl⟩
  have hlen : (sx_KE (sx_tbs, sx_gps) K).2.1.length = 83 := by rw [hKe]; rfl
  have hij : sx_ij (sx_KE (sx_tbs, sx_gps) K) (ly_pl pl a) := ly_pij p1 c3 hB.1
  have hon := ly_app hKe hB (fun h hh => ly_pl1 hh) hr hij (ly_hpI c6) (ly_ecI hlen h11 c6) (ly_erI hlen c1 c6) (ly_oba (ly_obr hr (ly_ob hB)) (ly_obI (x := nt_I M a 6) (h11.trans c6.2.2.symm))) ly_oc0
  subst hKe
  obtain ⟨o, k1, p, hp, r', k2, k3⟩ := ly_run hK hd (vs := [.ref (pl 16), .int (nI k)]) ⟨by show Value.ref (pl 16) = .ref (ly_pl pl a 16); rw [ly_pl1 (by decide)], ⟨nI k, rfl, by rw [nI_toInt (by omega)]; exact (sx_c_e r k).symm⟩, trivial⟩ hon
  rw [List.mem_singleton.mp hp] at k2 k3
  obtain ⟨ov, M'⟩ := o
  cases ov with
  | none => exact k2.elim
  | some w =>
    obtain ⟨y, rfl, hy⟩ := k2
    have hr' : ∀ s, s < 12 → r' s = r s := fun s hs => k3.2.2.2.2.2.1 s hs
    have hs : ∀ s, s < 11 → r' s = v s := fun s hs => (hr' s (by omega)).trans (hr s hs)
    have fr := ly_fsm (by show 66 ≤ 83; omega) hij hmo rfl k3.2.2.2.2.2.2
    have fr : ly_fs pl M M' := by
      obtain ⟨⟨f1, f2, f3⟩, f4⟩ := fr
      exact ⟨⟨f1, fun a' ha => f2 a' (fun g hg => by rw [ly_pl1 hg]; exact ha g hg), fun g j hg => by
        have := f3 g j hg
        rw [ly_pl1 (by omega)] at this
        exact this⟩, lq_Tpl f4⟩
    exact ⟨y, M', k1, ly_bk (ed := ly_ED) rfl rfl (fun h hh => ly_pl1 hh) k3 (ly_oi2 (fun h hh => ly_pl1 hh) rfl k3.2.2.1 (ly_e1 (hs 0 (by omega))) (ly_e1 (by rw [hr' 11 (by omega), h11]; rfl)) (ly_e1 (hs 2 (by omega))) (ly_e1 (hs 3 (by omega))) (ly_e1 (hs 4 (by omega))) (ly_e1 (hs 5 (by omega))) (ly_e1 (hs 6 (by omega))) (ly_e1 (hs 7 (by omega))) (ly_e1 (hs 8 (by omega))) (ly_e1 (hs 9 (by omega))) (ly_e1 (hs 10 (by omega)))) (ly_or2 (fun h hh => ly_pl1 hh) k3.2.2.2.1), fr⟩
/-- the class: back to an image that is not there -/
theorem ly_backN {X : nt_X} {K : sx_K} {pl : Nat → Nat} {v : Nat → Int} {M : nt_M} {d k : Nat} (hK : sx_KOK X (sx_tbs, sx_gps) K) (hKe : K = (128, 0, ly_D ++ [], ([], []), [(2, 16, (0, [])), (0, 0, ((k : Int), []))], (ly_C ++ [], ly_R ++ [((65, ((k : Int), [])), 0)], (ly_b, []), 11), [(some (0, 0, (0, [(11, 1)])), (ly_C, ly_R ++ [((65, ((k : Int), [])), 0)], ([(11, -2147483648, 2147483647)], []), 12))])) (hk : k < 4) (hB : ly_B pl v M) (hn : nt_R M (pl 65) k = none) : ∃ (y : Int32) (M' : nt_M), nt_ev X d 128 [.ref (pl 16), .int (nI k)] M (some (.int y), M') ∧ ly_B pl v M' ∧ ly_fs pl M M' := by
  have hlen : (sx_KE (sx_tbs, sx_gps) K).2.1.length = 66 := by rw [hKe]; rfl
  have hij : sx_ij (sx_KE (sx_tbs, sx_gps) K) pl := fun a b ha hb e => hB.1 a b (by rw [hlen] at ha; exact ha) (by rw [hlen] at hb; exact hb) e
  have hon := ly_app (r := v) hKe hB (fun _ _ => rfl) (fun _ _ => rfl) hij ly_nil (fun q hq => by cases hq) (fun q hq => by
    rw [List.mem_singleton.mp hq]
    refine ⟨⟨by rw [hlen]; show 65 < 66; decide, by rw [hlen]; show 0 ≤ 66; decide⟩, by dsimp only; rw [sx_c_e]; omega, ?_⟩
    dsimp only
    rw [sx_c_e, show ((k : Int)).toNat = k from by omega, hn]
    rfl) (ly_ob hB) ly_oc0
  subst hKe
  obtain ⟨o, k1, p, hp, r', k2, k3⟩ := ly_run hK (Nat.zero_le d) (vs := [.ref (pl 16), .int (nI k)]) ⟨rfl, ⟨nI k, rfl, by rw [nI_toInt (by omega)]; exact (sx_c_e v k).symm⟩, trivial⟩ hon
  rw [List.mem_singleton.mp hp] at k2 k3
  obtain ⟨ov, M'⟩ := o
  cases ov with
  | none => exact k2.elim
  | some w =>
    obtain ⟨y, rfl, hy⟩ := k2
    have hr' : ∀ s, s < 11 → r' s = v s := fun s hs => k3.2.2.2.2.2.1 s hs
    exact ⟨y, M', k1, ly_bk (ed := []) rfl rfl (fun _ _ => rfl) k3 (ly_oiC (more := []) (fun _ _ => rfl) rfl k3.2.2.1 hr') (ly_or2 (fun _ _ => rfl) k3.2.2.2.1), ly_fsm (Nat.le_of_eq rfl) hij rfl rfl k3.2.2.2.2.2.2⟩
theorem ly_imgR0 {X : nt_X} {pl : Nat → Nat} {v : Nat → Int} {M : nt_M} {d : Nat} (hd : 1 ≤ d) (hB : ly_B pl v M) : ∃ (y : Int32) (M' : nt_M), nt_ev X d 234 [.ref (pl 0), .int (nI 0)] M (some (.int y), M') ∧ ly_B pl (fun s => if s = 3 then 1 else if s = 7 then v 0 else v s) M' ∧ ly_fs pl M M' := by
  have hij := ly_ij (K := kk_w_image0) rfl hB
  have hon := ly_app (K := kk_w_image0) (r := v) (ed := []) (ec := []) (er := []) rfl hB (fun _ _ => rfl) (fun _ _ => rfl) hij ly_nil (fun q hq => by cases hq) (fun q hq => by cases hq) (ly_ob hB) ly_oc0
  obtain ⟨o, k1, p, hp, r', k2, k3⟩ := ly_run (ko_w_image0 X) hd (vs := [.ref (pl 0), .int (nI 0)]) ⟨rfl, ⟨nI 0, rfl, (sx_c_e v 0).symm⟩, trivial⟩ hon
  rw [List.mem_singleton.mp hp] at k2 k3
  obtain ⟨ov, M'⟩ := o
  cases ov with
  | none => exact k2.elim
  | some w =>
    obtain ⟨y, rfl, hy⟩ := k2
    have hs : ∀ s, s < 11 → r' s = v s := fun s hs => k3.2.2.2.2.2.1 s hs
    exact ⟨y, M', k1, ly_bk (ed := []) rfl rfl (fun _ _ => rfl) k3 (ly_oi2 (more := []) (fun _ _ => rfl) rfl k3.2.2.1 (ly_e1 (hs 0 (by omega))) (ly_e1 (hs 1 (by omega))) (ly_e1 (hs 2 (by omega))) (sx_c_e _ _) (ly_e1 (hs 4 (by omega))) (ly_e1 (hs 5 (by omega))) (ly_e1 (hs 6 (by omega))) (ly_e1 (hs 0 (by omega))) (ly_e1 (hs 8 (by omega))) (ly_e1 (hs 9 (by omega))) (ly_e1 (hs 10 (by omega)))) (ly_or2 (more := []) (fun _ _ => rfl) k3.2.2.2.1), ly_fsm (Nat.le_of_eq rfl) hij (by decide +kernel) (by decide +kernel) k3.2.2.2.2.2.2⟩
theorem ly_backR0 {X : nt_X} {pl : Nat → Nat} {v : Nat → Int} {M : nt_M} {d : Nat} (hd : 1 ≤ d) (hB : ly_B pl v M) (hm : v 3 = 1) : ∃ (y : Int32) (M' : nt_M), nt_ev X d 235 [.ref (pl 0), .int (nI 0)] M (some (.int y), M') ∧ ly_B pl (fun s => if s = 0 then v 7 else v s) M' ∧ ly_fs pl M M' := by
  have hij := ly_ij (K := kk_w_back0) rfl hB
  have hon := ly_app (K := kk_w_back0) (r := v) (ed := []) (ec := []) (er := []) rfl hB (fun _ _ => rfl) (fun _ _ => rfl) hij ly_nil (fun q hq => by cases hq) (fun q hq => by cases hq) (ly_oba (ly_ob1 (by omega)) (ly_ob hB)) ly_oc0
  obtain ⟨o, k1, p, hp, r', k2, k3⟩ := ly_run (ko_w_back0 X) hd (vs := [.ref (pl 0), .int (nI 0)]) ⟨rfl, ⟨nI 0, rfl, (sx_c_e v 0).symm⟩, trivial⟩ hon
  rw [List.mem_singleton.mp hp] at k2 k3
  obtain ⟨ov, M'⟩ := o
  cases ov with
  | none => exact k2.elim
  | some w =>
    obtain ⟨y, rfl, hy⟩ := k2
    have hs : ∀ s, s < 11 → r' s = v s := fun s hs => k3.2.2.2.2.2.1 s hs
    exact ⟨y, M', k1, ly_bk (ed := []) rfl rfl (fun _ _ => rfl) k3 (ly_oi2 (more := []) (fun _ _ => rfl) rfl k3.2.2.1 (ly_e1 (hs 7 (by omega))) (ly_e1 (hs 1 (by omega))) (ly_e1 (hs 2 (by omega))) (ly_e1 (hs 3 (by omega))) (ly_e1 (hs 4 (by omega))) (ly_e1 (hs 5 (by omega))) (ly_e1 (hs 6 (by omega))) (ly_e1 (hs 7 (by omega))) (ly_e1 (hs 8 (by omega))) (ly_e1 (hs 9 (by omega))) (ly_e1 (hs 10 (by omega)))) (ly_or2 (more := []) (fun _ _ => rfl) k3.2.2.2.1), ly_fsm (Nat.le_of_eq rfl) hij (by decide +kernel) (by decide +kernel) k3.2.2.2.2.2.2⟩
theorem ly_imgR1 {X : nt_X} {pl : Nat → Nat} {v : Nat → Int} {M : nt_M} {d : Nat} (hd : 1 ≤ d) (hB : ly_B pl v M) : ∃ (y : Int32) (M' : nt_M), nt_ev X d 234 [.ref (pl 0), .int (nI 1)] M (some (.int y), M') ∧ ly_B pl (fun s => if s = 4 then 1 else if s = 8 then v 0 else v s) M' ∧ ly_fs pl M M' := by
  have hij := ly_ij (K := kk_w_image1) rfl hB
  have hon := ly_app (K := kk_w_image1) (r := v) (ed := []) (ec := []) (er := []) rfl hB (fun _ _ => rfl) (fun _ _ => rfl) hij ly_nil (fun q hq => by cases hq) (fun q hq => by cases hq) (ly_ob hB) ly_oc0
  obtain ⟨o, k1, p, hp, r', k2, k3⟩ := ly_run (ko_w_image1 X) hd (vs := [.ref (pl 0), .int (nI 1)]) ⟨rfl, ⟨nI 1, rfl, (sx_c_e v 1).symm⟩, trivial⟩ hon
  rw [List.mem_singleton.mp hp] at k2 k3
  obtain ⟨ov, M'⟩ := o
  cases ov with
  | none => exact k2.elim
  | some w =>
    obtain ⟨y, rfl, hy⟩ := k2
    have hs : ∀ s, s < 11 → r' s = v s := fun s hs => k3.2.2.2.2.2.1 s hs
    exact ⟨y, M', k1, ly_bk (ed := []) rfl rfl (fun _ _ => rfl) k3 (ly_oi2 (more := []) (fun _ _ => rfl) rfl k3.2.2.1 (ly_e1 (hs 0 (by omega))) (ly_e1 (hs 1 (by omega))) (ly_e1 (hs 2 (by omega))) (ly_e1 (hs 3 (by omega))) (sx_c_e _ _) (ly_e1 (hs 5 (by omega))) (ly_e1 (hs 6 (by omega))) (ly_e1 (hs 7 (by omega))) (ly_e1 (hs 0 (by omega))) (ly_e1 (hs 9 (by omega))) (ly_e1 (hs 10 (by omega)))) (ly_or2 (more := []) (fun _ _ => rfl) k3.2.2.2.1), ly_fsm (Nat.le_of_eq rfl) hij (by decide +kernel) (by decide +kernel) k3.2.2.2.2.2.2⟩
theorem ly_backR1 {X : nt_X} {pl : Nat → Nat} {v : Nat → Int} {M : nt_M} {d : Nat} (hd : 1 ≤ d) (hB : ly_B pl v M) (hm : v 4 = 1) : ∃ (y : Int32) (M' : nt_M), nt_ev X d 235 [.ref (pl 0), .int (nI 1)] M (some (.int y), M') ∧ ly_B pl (fun s => if s = 0 then v 8 else v s) M' ∧ ly_fs pl M M' := by
  have hij := ly_ij (K := kk_w_back1) rfl hB
  have hon := ly_app (K := kk_w_back1) (r := v) (ed := []) (ec := []) (er := []) rfl hB (fun _ _ => rfl) (fun _ _ => rfl) hij ly_nil (fun q hq => by cases hq) (fun q hq => by cases hq) (ly_oba (ly_ob1 (by omega)) (ly_ob hB)) ly_oc0
  obtain ⟨o, k1, p, hp, r', k2, k3⟩ := ly_run (ko_w_back1 X) hd (vs := [.ref (pl 0), .int (nI 1)]) ⟨rfl, ⟨nI 1, rfl, (sx_c_e v 1).symm⟩, trivial⟩ hon
  rw [List.mem_singleton.mp hp] at k2 k3
  obtain ⟨ov, M'⟩ := o
  cases ov with
  | none => exact k2.elim
  | some w =>
    obtain ⟨y, rfl, hy⟩ := k2
    have hs : ∀ s, s < 11 → r' s = v s := fun s hs => k3.2.2.2.2.2.1 s hs
    exact ⟨y, M', k1, ly_bk (ed := []) rfl rfl (fun _ _ => rfl) k3 (ly_oi2 (more := []) (fun _ _ => rfl) rfl k3.2.2.1 (ly_e1 (hs 8 (by omega))) (ly_e1 (hs 1 (by omega))) (ly_e1 (hs 2 (by omega))) (ly_e1 (hs 3 (by omega))) (ly_e1 (hs 4 (by omega))) (ly_e1 (hs 5 (by omega))) (ly_e1 (hs 6 (by omega))) (ly_e1 (hs 7 (by omega))) (ly_e1 (hs 8 (by omega))) (ly_e1 (hs 9 (by omega))) (ly_e1 (hs 10 (by omega)))) (ly_or2 (more := []) (fun _ _ => rfl) k3.2.2.2.1), ly_fsm (Nat.le_of_eq rfl) hij (by decide +kernel) (by decide +kernel) k3.2.2.2.2.2.2⟩
theorem ly_imgR2 {X : nt_X} {pl : Nat → Nat} {v : Nat → Int} {M : nt_M} {d : Nat} (hd : 1 ≤ d) (hB : ly_B pl v M) : ∃ (y : Int32) (M' : nt_M), nt_ev X d 234 [.ref (pl 0), .int (nI 2)] M (some (.int y), M') ∧ ly_B pl (fun s => if s = 5 then 1 else if s = 9 then v 0 else v s) M' ∧ ly_fs pl M M' := by
  have hij := ly_ij (K := kk_w_image2) rfl hB
  have hon := ly_app (K := kk_w_image2) (r := v) (ed := []) (ec := []) (er := []) rfl hB (fun _ _ => rfl) (fun _ _ => rfl) hij ly_nil (fun q hq => by cases hq) (fun q hq => by cases hq) (ly_ob hB) ly_oc0
  obtain ⟨o, k1, p, hp, r', k2, k3⟩ := ly_run (ko_w_image2 X) hd (vs := [.ref (pl 0), .int (nI 2)]) ⟨rfl, ⟨nI 2, rfl, (sx_c_e v 2).symm⟩, trivial⟩ hon
  rw [List.mem_singleton.mp hp] at k2 k3
  obtain ⟨ov, M'⟩ := o
  cases ov with
  | none => exact k2.elim
  | some w =>
    obtain ⟨y, rfl, hy⟩ := k2
    have hs : ∀ s, s < 11 → r' s = v s := fun s hs => k3.2.2.2.2.2.1 s hs
    exact ⟨y, M', k1, ly_bk (ed := []) rfl rfl (fun _ _ => rfl) k3 (ly_oi2 (more := []) (fun _ _ => rfl) rfl k3.2.2.1 (ly_e1 (hs 0 (by omega))) (ly_e1 (hs 1 (by omega))) (ly_e1 (hs 2 (by omega))) (ly_e1 (hs 3 (by omega))) (ly_e1 (hs 4 (by omega))) (sx_c_e _ _) (ly_e1 (hs 6 (by omega))) (ly_e1 (hs 7 (by omega))) (ly_e1 (hs 8 (by omega))) (ly_e1 (hs 0 (by omega))) (ly_e1 (hs 10 (by omega)))) (ly_or2 (more := []) (fun _ _ => rfl) k3.2.2.2.1), ly_fsm (Nat.le_of_eq rfl) hij (by decide +kernel) (by decide +kernel) k3.2.2.2.2.2.2⟩
theorem ly_backR2 {X : nt_X} {pl : Nat → Nat} {v : Nat → Int} {M : nt_M} {d : Nat} (hd : 1 ≤ d) (hB : ly_B pl v M) (hm : v 5 = 1) : ∃ (y : Int32) (M' : nt_M), nt_ev X d 235 [.ref (pl 0), .int (nI 2)] M (some (.int y), M') ∧ ly_B pl (fun s => if s = 0 then v 9 else v s) M' ∧ ly_fs pl M M' := by
  have hij := ly_ij (K := kk_w_back2) rfl hB
  have hon := ly_app (K := kk_w_back2) (r := v) (ed := []) (ec := []) (er := []) rfl hB (fun _ _ => rfl) (fun _ _ => rfl) hij ly_nil (fun q hq => by cases hq) (fun q hq => by cases hq) (ly_oba (ly_ob1 (by omega)) (ly_ob hB)) ly_oc0
  obtain ⟨o, k1, p, hp, r', k2, k3⟩ := ly_run (ko_w_back2 X) hd (vs := [.ref (pl 0), .int (nI 2)]) ⟨rfl, ⟨nI 2, rfl, (sx_c_e v 2).symm⟩, trivial⟩ hon
  rw [List.mem_singleton.mp hp] at k2 k3
  obtain ⟨ov, M'⟩ := o
  cases ov with
  | none => exact k2.elim
  | some w =>
    obtain ⟨y, rfl, hy⟩ := k2
    have hs : ∀ s, s < 11 → r' s = v s := fun s hs => k3.2.2.2.2.2.1 s hs
    exact ⟨y, M', k1, ly_bk (ed := []) rfl rfl (fun _ _ => rfl) k3 (ly_oi2 (more := []) (fun _ _ => rfl) rfl k3.2.2.1 (ly_e1 (hs 9 (by omega))) (ly_e1 (hs 1 (by omega))) (ly_e1 (hs 2 (by omega))) (ly_e1 (hs 3 (by omega))) (ly_e1 (hs 4 (by omega))) (ly_e1 (hs 5 (by omega))) (ly_e1 (hs 6 (by omega))) (ly_e1 (hs 7 (by omega))) (ly_e1 (hs 8 (by omega))) (ly_e1 (hs 9 (by omega))) (ly_e1 (hs 10 (by omega)))) (ly_or2 (more := []) (fun _ _ => rfl) k3.2.2.2.1), ly_fsm (Nat.le_of_eq rfl) hij (by decide +kernel) (by decide +kernel) k3.2.2.2.2.2.2⟩
theorem ly_imgR3 {X : nt_X} {pl : Nat → Nat} {v : Nat → Int} {M : nt_M} {d : Nat} (hd : 1 ≤ d) (hB : ly_B pl v M) : ∃ (y : Int32) (M' : nt_M), nt_ev X d 234 [.ref (pl 0), .int (nI 3)] M (some (.int y), M') ∧ ly_B pl (fun s => if s = 6 then 1 else if s = 10 then v 0 else v s) M' ∧ ly_fs pl M M' := by
  have hij := ly_ij (K := kk_w_image3) rfl hB
  have hon := ly_app (K := kk_w_image3) (r := v) (ed := []) (ec := []) (er := []) rfl hB (fun _ _ => rfl) (fun _ _ => rfl) hij ly_nil (fun q hq => by cases hq) (fun q hq => by cases hq) (ly_ob hB) ly_oc0
  obtain ⟨o, k1, p, hp, r', k2, k3⟩ := ly_run (ko_w_image3 X) hd (vs := [.ref (pl 0), .int (nI 3)]) ⟨rfl, ⟨nI 3, rfl, (sx_c_e v 3).symm⟩, trivial⟩ hon
  rw [List.mem_singleton.mp hp] at k2 k3
  obtain ⟨ov, M'⟩ := o
  cases ov with
  | none => exact k2.elim
  | some w =>
    obtain ⟨y, rfl, hy⟩ := k2
    have hs : ∀ s, s < 11 → r' s = v s := fun s hs => k3.2.2.2.2.2.1 s hs
    exact ⟨y, M', k1, ly_bk (ed := []) rfl rfl (fun _ _ => rfl) k3 (ly_oi2 (more := []) (fun _ _ => rfl) rfl k3.2.2.1 (ly_e1 (hs 0 (by omega))) (ly_e1 (hs 1 (by omega))) (ly_e1 (hs 2 (by omega))) (ly_e1 (hs 3 (by omega))) (ly_e1 (hs 4 (by omega))) (ly_e1 (hs 5 (by omega))) (sx_c_e _ _) (ly_e1 (hs 7 (by omega))) (ly_e1 (hs 8 (by omega))) (ly_e1 (hs 9 (by omega))) (ly_e1 (hs 0 (by omega)))) (ly_or2 (more := []) (fun _ _ => rfl) k3.2.2.2.1), ly_fsm (Nat.le_of_eq rfl) hij (by decide +kernel) (by decide +kernel) k3.2.2.2.2.2.2⟩
theorem ly_backR3 {X : nt_X} {pl : Nat → Nat} {v : Nat → Int} {M : nt_M} {d : Nat} (hd : 1 ≤ d) (hB : ly_B pl v M) (hm : v 6 = 1) : ∃ (y : Int32) (M' : nt_M), nt_ev X d 235 [.ref (pl 0), .int (nI 3)] M (some (.int y), M') ∧ ly_B pl (fun s => if s = 0 then v 10 else v s) M' ∧ ly_fs pl M M' := by
  have hij := ly_ij (K := kk_w_back3) rfl hB
  have hon := ly_app (K := kk_w_back3) (r := v) (ed := []) (ec := []) (er := []) rfl hB (fun _ _ => rfl) (fun _ _ => rfl) hij ly_nil (fun q hq => by cases hq) (fun q hq => by cases hq) (ly_oba (ly_ob1 (by omega)) (ly_ob hB)) ly_oc0
  obtain ⟨o, k1, p, hp, r', k2, k3⟩ := ly_run (ko_w_back3 X) hd (vs := [.ref (pl 0), .int (nI 3)]) ⟨rfl, ⟨nI 3, rfl, (sx_c_e v 3).symm⟩, trivial⟩ hon
  rw [List.mem_singleton.mp hp] at k2 k3
  obtain ⟨ov, M'⟩ := o
  cases ov with
  | none => exact k2.elim
  | some w =>
    obtain ⟨y, rfl, hy⟩ := k2
    have hs : ∀ s, s < 11 → r' s = v s := fun s hs => k3.2.2.2.2.2.1 s hs
    exact ⟨y, M', k1, ly_bk (ed := []) rfl rfl (fun _ _ => rfl) k3 (ly_oi2 (more := []) (fun _ _ => rfl) rfl k3.2.2.1 (ly_e1 (hs 10 (by omega))) (ly_e1 (hs 1 (by omega))) (ly_e1 (hs 2 (by omega))) (ly_e1 (hs 3 (by omega))) (ly_e1 (hs 4 (by omega))) (ly_e1 (hs 5 (by omega))) (ly_e1 (hs 6 (by omega))) (ly_e1 (hs 7 (by omega))) (ly_e1 (hs 8 (by omega))) (ly_e1 (hs 9 (by omega))) (ly_e1 (hs 10 (by omega)))) (ly_or2 (more := []) (fun _ _ => rfl) k3.2.2.2.1), ly_fsm (Nat.le_of_eq rfl) hij (by decide +kernel) (by decide +kernel) k3.2.2.2.2.2.2⟩
