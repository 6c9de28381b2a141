/-! images and rules: blocks behind the regions -/
def ly_ED : sx_D := [(6, 0, 0, 15), (8, 0, 0, 1), (13, 24, 24, 0), (13, 24, 24, 2), (13, 24, 24, 0), (13, 24, 24, 0), (13, 8, 8, 3), (13, 8, 8, 0), (13, 8, 8, 0), (13, 8, 8, 0), (13, 6, 6, 0), (13, 6, 6, 0), (13, 6, 6, 0), (13, 24, 24, 0), (13, 24, 24, 0), (15, 24, 24, 0), (13, 8, 8, 0)]
def ly_RI : sx_R := [((66, (0, [])), 68), ((67, (5, [])), 69), ((67, (6, [])), 70), ((67, (7, [])), 71), ((67, (8, [])), 72), ((67, (9, [])), 73), ((67, (10, [])), 74), ((67, (11, [])), 75), ((67, (12, [])), 76), ((66, (7, [])), 77), ((66, (8, [])), 78), ((66, (9, [])), 79), ((66, (10, [])), 80), ((66, (11, [])), 81), ((66, (12, [])), 82), ((66, (13, [])), 83)]
def ly_hp (ed : sx_D) (a : Nat) (M : nt_M) : Prop := ∀ h q, ed[h]? = some q → a + h < nt_n M ∧ nt_k M (a + h) = q.1 ∧ (q.2.1 ≤ (nt_l M (a + h) : Int) ∧ (nt_l M (a + h) : Int) ≤ q.2.2.1) ∧ nt_l M (a + h) < 2147483648 ∧ ∀ j, (sx_iv (sx_tbs.getD q.2.2.2 []) j).1 ≤ (nt_I M (a + h) j).toInt ∧ (nt_I M (a + h) j).toInt ≤ (sx_iv (sx_tbs.getD q.2.2.2 []) j).2
/-- an image: a state's block at a, with that x -/
def ly_im (a : Nat) (x : Int) (M : nt_M) : Prop := ly_hp ly_ED a M ∧ (∀ q ∈ ly_RI, nt_R M (a + (q.1.1 - 66)) q.1.2.1.toNat = some (a + (q.2 - 67))) ∧ (nt_I M a 6).toInt = x
/-- a rule: a block of two at b -/
def ly_ru (b : Nat) (M : nt_M) : Prop := ly_hp [(4, 0, 0, 0), (13, 0, 400, 0)] b M ∧ nt_R M b 0 = some (b + 1)
def ly_S (pl : Nat → Nat) (mk xi : Nat → Int) (rc : Int) (M : nt_M) : Prop := ((∀ g, g < 66 → pl g < 66) ∧ pl 16 = 0 ∧ pl 0 = 50 ∧ 66 ≤ nt_n M) ∧ ((nt_n M : Int) ≤ 66 + 17 * (mk 0 + mk 1 + mk 2 + mk 3) + 2 * rc ∧ (nt_z M : Int) ≤ 20000 + 400 * (mk 0 + mk 1 + mk 2 + mk 3) + 500 * rc) ∧ ∃ T : Nat → Nat, (∀ k, k < 4 → (nt_R M (pl 65) k = none ∧ mk k = 0) ∨ ∃ a, nt_R M (pl 65) k = some a ∧ mk k = 1 ∧ 66 ≤ a ∧ a + 17 ≤ nt_n M ∧ (∀ i, i < 17 → T (a + i) = k) ∧ ly_im a (xi k) M) ∧ ∀ u : Nat, (u : Int) < rc → ∃ b, nt_R M (pl 23) u = some b ∧ 66 ≤ b ∧ b + 2 ≤ nt_n M ∧ T b = 4 + u ∧ T (b + 1) = 4 + u ∧ ly_ru b M
theorem ly_hp_fr {ed : sx_D} {a : Nat} {M M' : nt_M} (hn : nt_n M' = nt_n M) (hk : nt_k M' = nt_k M) (hl : nt_l M' = nt_l M) (hI : ∀ h, h < ed.length → ∀ j, nt_I M' (a + h) j = nt_I M (a + h) j) (h : ly_hp ed a M) : ly_hp ed a M' := by
  intro h' q hq
  have hh := (List.getElem?_eq_some_iff.mp hq).1
  have := h h' q hq
  rw [hn, hk, hl]
  refine ⟨this.1, this.2.1, this.2.2.1, this.2.2.2.1, fun j => ?_⟩
  rw [hI h' hh j]
  exact this.2.2.2.2 j
theorem ly_RI_lt : ly_RI.all (fun q => Nat.blt (q.1.1 - 66) 17) = true := by decide +kernel
theorem ly_im_fr {a : Nat} {x : Int} {M M' : nt_M} (hn : nt_n M' = nt_n M) (hk : nt_k M' = nt_k M) (hl : nt_l M' = nt_l M) (hI : ∀ h, h < 17 → ∀ j, nt_I M' (a + h) j = nt_I M (a + h) j) (hR : ∀ h, h < 17 → ∀ j, nt_R M' (a + h) j = nt_R M (a + h) j) (h : ly_im a x M) : ly_im a x M' := by
  obtain ⟨h1, h2, h3⟩ := h
  refine ⟨ly_hp_fr hn hk hl hI h1, fun q hq => ?_, ?_⟩
  · rw [hR _ (Nat.blt_eq.mp (List.all_eq_true.mp ly_RI_lt q hq))]
    exact h2 q hq
  · have := hI 0 (by omega) 6
    rw [Nat.add_zero] at this
    rw [this]
    exact h3
theorem ly_ru_fr {b : Nat} {M M' : nt_M} (hn : nt_n M' = nt_n M) (hk : nt_k M' = nt_k M) (hl : nt_l M' = nt_l M) (hI : ∀ h, h < 2 → ∀ j, nt_I M' (b + h) j = nt_I M (b + h) j) (hR : ∀ j, nt_R M' b j = nt_R M b j) (h : ly_ru b M) : ly_ru b M' := ⟨ly_hp_fr hn hk hl hI h.1, by rw [hR]; exact h.2⟩
/-- a call that changes regions alone -/
theorem ly_S_fr {pl : Nat → Nat} {mk xi : Nat → Int} {rc : Int} {M M' : nt_M} (hf : ly_fr 66 pl M M') (h : ly_S pl mk xi rc M) : ly_S pl mk xi rc M' := by
  obtain ⟨⟨f1, f2, f3, f4⟩, f5, f6⟩ := hf
  obtain ⟨⟨p1, p2, p3, p4⟩, ⟨p5, p6⟩, T, p7, p8⟩ := h
  have out : ∀ a, 66 ≤ a → (∀ j, nt_I M' a j = nt_I M a j) ∧ ∀ j, nt_R M' a j = nt_R M a j := fun a ha => f5 a fun g hg e => by
    have := p1 g hg
    omega
  refine ⟨⟨p1, p2, p3, by rw [f1]; exact p4⟩, ⟨by rw [f1]; exact p5, by rw [f2]; exact p6⟩, T, fun k hk => ?_, fun u hu => ?_⟩
  · rw [f6 65 k (Or.inr rfl), f1]
    rcases p7 k hk with c | ⟨a, c1, c2, c3, c4, c5, c6⟩
    · exact Or.inl c
    · exact Or.inr ⟨a, c1, c2, c3, c4, c5, ly_im_fr f1 f3 f4 (fun h hh => (out (a + h) (by omega)).1) (fun h hh => (out (a + h) (by omega)).2) c6⟩
  · obtain ⟨b, c1, c2, c3, c4, c5, c6⟩ := p8 u hu
    rw [f6 23 u (Or.inl rfl), f1]
    exact ⟨b, c1, c2, c3, c4, c5, ly_ru_fr f1 f3 f4 (fun h hh => (out (b + h) (by omega)).1) (out b c2).2 c6⟩
def ly_pl (pl : Nat → Nat) (a : Nat) (g : Nat) : Nat := if g < 66 then pl g else a + (g - 66)
theorem ly_pl1 {pl : Nat → Nat} {a g : Nat} (h : g < 66) : ly_pl pl a g = pl g := if_pos h
theorem ly_pl2 {pl : Nat → Nat} {a g : Nat} (h : 66 ≤ g) : ly_pl pl a g = a + (g - 66) := if_neg (by omega)
theorem ly_pij {K : sx_K} {pl : Nat → Nat} {a : Nat} (hp : ∀ g, g < 66 → pl g < 66) (ha : 66 ≤ a) (hij : sx_ij ly_E pl) : sx_ij (sx_KE (sx_tbs, sx_gps) K) (ly_pl pl a) := by
  intro g h hg hh e
  by_cases c1 : g < 66
  · have q1 := hp g c1
    by_cases c2 : h < 66
    · rw [ly_pl1 c1, ly_pl1 c2] at e
      exact hij g h c1 c2 e
    · rw [ly_pl1 c1, ly_pl2 (by omega)] at e
      omega
  · by_cases c2 : h < 66
    · have q2 := hp h c2
      rw [ly_pl2 (by omega), ly_pl1 c2] at e
      omega
    · rw [ly_pl2 (by omega), ly_pl2 (by omega)] at e
      omega
/-- cells with other values -/
theorem ly_oi2 {E : sx_E} {F : sx_F} {pl : Nat → Nat} {r' v' : Nat → Int} {M' : nt_M} {c0 c1 c2 c3 c4 c5 c6 c7 c8 c9 c10 : sx_L} {more : sx_I} (hpl : ∀ h, h < 66 → F.1 h = pl h) (hF : F.2.2.2 = nt_ghost) (h : sx_oi E F r' ([((4, (9, [])), c0), ((31, (6, [])), c1), ((16, (4, [])), c2), ((15, (0, [])), c3), ((15, (1, [])), c4), ((15, (2, [])), c5), ((15, (3, [])), c6), ((14, (9, [])), c7), ((14, (221, [])), c8), ((14, (433, [])), c9), ((14, (645, [])), c10), ((100, (10000, [])), (1, []))] ++ more) M') (e0 : sx_e r' c0 = v' 0) (e1 : sx_e r' c1 = v' 1) (e2 : sx_e r' c2 = v' 2) (e3 : sx_e r' c3 = v' 3) (e4 : sx_e r' c4 = v' 4) (e5 : sx_e r' c5 = v' 5) (e6 : sx_e r' c6 = v' 6) (e7 : sx_e r' c7 = v' 7) (e8 : sx_e r' c8 = v' 8) (e9 : sx_e r' c9 = v' 9) (e10 : sx_e r' c10 = v' 10) : sx_oi ly_E (pl, M', v', nt_ghost) v' ly_C M' := by
  have key : ∀ (g : Nat) (j : Int) (c : sx_L) (u : Nat), g < 66 → ((g, (j, [])), c) ∈ ([((4, (9, [])), c0), ((31, (6, [])), c1), ((16, (4, [])), c2), ((15, (0, [])), c3), ((15, (1, [])), c4), ((15, (2, [])), c5), ((15, (3, [])), c6), ((14, (9, [])), c7), ((14, (221, [])), c8), ((14, (433, [])), c9), ((14, (645, [])), c10), ((100, (10000, [])), (1, []))] ++ more : sx_I) → sx_e r' c = v' u → (g < ly_E.2.1.length ∨ 100 ≤ g) ∧ sx_rd (pl, M', v', nt_ghost) M' g (sx_e v' (j, [])) = sx_e v' (0, [(u, 1)]) := by
    intro g j c u hg hm he
    refine ⟨Or.inl hg, ?_⟩
    have := (h _ hm).2
    dsimp only at this
    rw [sx_c_e] at this ⊢
    rw [sx_s_e, ← he, ← this]
    unfold sx_rd
    dsimp only
    rw [if_neg (show ¬ 100 ≤ g by omega), if_neg (show ¬ 100 ≤ g by omega), hpl g hg]
  intro q hq
  rcases List.mem_cons.mp hq with rfl | hq
  · exact key _ _ _ _ (by decide) (List.mem_append_left _ (List.mem_of_getElem? (i := 0) rfl)) e0
  rcases List.mem_cons.mp hq with rfl | hq
  · exact key _ _ _ _ (by decide) (List.mem_append_left _ (List.mem_of_getElem? (i := 1) rfl)) e1
  rcases List.mem_cons.mp hq with rfl | hq
  · exact key _ _ _ _ (by decide) (List.mem_append_left _ (List.mem_of_getElem? (i := 2) rfl)) e2
  rcases List.mem_cons.mp hq with rfl | hq
  · exact key _ _ _ _ (by decide) (List.mem_append_left _ (List.mem_of_getElem? (i := 3) rfl)) e3
  rcases List.mem_cons.mp hq with rfl | hq
  · exact key _ _ _ _ (by decide) (List.mem_append_left _ (List.mem_of_getElem? (i := 4) rfl)) e4
  rcases List.mem_cons.mp hq with rfl | hq
  · exact key _ _ _ _ (by decide) (List.mem_append_left _ (List.mem_of_getElem? (i := 5) rfl)) e5
  rcases List.mem_cons.mp hq with rfl | hq
  · exact key _ _ _ _ (by decide) (List.mem_append_left _ (List.mem_of_getElem? (i := 6) rfl)) e6
  rcases List.mem_cons.mp hq with rfl | hq
  · exact key _ _ _ _ (by decide) (List.mem_append_left _ (List.mem_of_getElem? (i := 7) rfl)) e7
  rcases List.mem_cons.mp hq with rfl | hq
  · exact key _ _ _ _ (by decide) (List.mem_append_left _ (List.mem_of_getElem? (i := 8) rfl)) e8
  rcases List.mem_cons.mp hq with rfl | hq
  · exact key _ _ _ _ (by decide) (List.mem_append_left _ (List.mem_of_getElem? (i := 9) rfl)) e9
  rcases List.mem_cons.mp hq with rfl | hq
  · exact key _ _ _ _ (by decide) (List.mem_append_left _ (List.mem_of_getElem? (i := 10) rfl)) e10
  · rw [List.mem_singleton.mp hq]
    refine ⟨Or.inr (by decide), ?_⟩
    have := (h _ (List.mem_append_left _ (List.mem_of_getElem? (i := 11) rfl))).2
    dsimp only at this ⊢
    rw [sx_c_e, sx_c_e] at this ⊢
    rw [← this]
    unfold sx_rd
    rw [if_pos (by decide), if_pos (by decide), hF]
    refine ly_gh (E := ly_E) (F := (pl, M', v', nt_ghost)) rfl rfl 0 _ _ _ ?_
    intro g hh j hj
    have : g = 1 ∨ g = 2 ∨ g = 3 := by
      rcases List.mem_cons.mp hh with e | hh
      · exact Or.inl e
      rcases List.mem_cons.mp hh with e | hh
      · exact Or.inr (Or.inl e)
      · exact Or.inr (Or.inr (List.mem_singleton.mp hh))
    rw [hpl g (by omega)]
/-- refs, of the regions that are always there -/
theorem ly_or2 {E : sx_E} {pl pl' : Nat → Nat} {r' v' : Nat → Int} {more : sx_R} {M' : nt_M} (hpl : ∀ h, h < 66 → pl' h = pl h) (h : sx_or E pl' r' (ly_R ++ more) M') : sx_or ly_E pl v' ly_R M' := by
  intro q hq
  have l := List.all_eq_true.mp (show ly_R.all (fun q => sx_lw 0 q.1.2 && (Nat.blt q.1.1 66 && (Nat.blt 0 q.2 && Nat.ble q.2 66))) = true from by decide +kernel) q hq
  rw [Bool.and_eq_true, Bool.and_eq_true, Bool.and_eq_true] at l
  obtain ⟨l1, l2, l3, l4⟩ := l
  have l2 := Nat.blt_eq.mp l2
  have l3 := Nat.blt_eq.mp l3
  have l4 := Nat.le_of_ble_eq_true l4
  obtain ⟨h1, h2, h3⟩ := h q (List.mem_append_left _ hq)
  have e : sx_e v' q.1.2 = sx_e r' q.1.2 := sx_e_up (n := 0) (fun s hs => by omega) l1
  rw [e]
  refine ⟨⟨l2, l4⟩, h2, ?_⟩
  rw [hpl _ l2] at h3
  rw [h3]
  unfold sx_rq
  rw [if_neg (by omega), if_neg (by omega), hpl _ (by omega)]
theorem lq_Tpl {pl : Nat → Nat} {a : Nat} {M M' : nt_M} (h : lq_T (ly_pl pl a) M M') : lq_T pl M M' := by
  intro g j hc
  have q := h g j hc
  rw [ly_pl1 (lq_c66 hc)] at q
  exact q
