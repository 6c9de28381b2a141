/-! the law's calls, both sides; the whole state is the same -/
def ly_Inv (M : nt_M) : Prop := ∃ (pl : Nat → Nat) (v : Nat → Int), ly_B pl v M ∧ ly_S pl (fun k => v (3 + k)) (fun k => v (7 + k)) (v 2) M ∧ v 0 = v 1 ∧ lq_E pl M ∧ zz_E pl M
theorem ly_S_cg {pl : Nat → Nat} {mk xi mk' xi' : Nat → Int} {rc rc' : Int} {M : nt_M} (h1 : ∀ k, k < 4 → mk' k = mk k) (h2 : ∀ k, k < 4 → xi' k = xi k) (h3 : rc' = rc) (h : ly_S pl mk xi rc M) : ly_S pl mk' xi' rc' M := by
  obtain ⟨p0, ⟨p5, p6⟩, T, p7, p8⟩ := h
  rw [h3]
  refine ⟨p0, ⟨by rw [h1 0 (by omega), h1 1 (by omega), h1 2 (by omega), h1 3 (by omega)]; exact p5, by rw [h1 0 (by omega), h1 1 (by omega), h1 2 (by omega), h1 3 (by omega)]; exact p6⟩, T, fun k hk => ?_, p8⟩
  rw [h1 k hk, h2 k hk]
  exact p7 k hk
/-- both sides of a call -/
def ly_P (X : nt_X) (gc gr : Nat) (as : List Value) (M : nt_M) (Q : Int32 → Int32 → Prop) : Prop := ∃ (y1 : Int32) (M1 : nt_M) (y2 : Int32) (M2 : nt_M), nt_ev X 99 gc (.ref 0 :: as) M (some (.int y1), M1) ∧ nt_ev X 99 gr (.ref 50 :: as) M1 (some (.int y2), M2) ∧ ly_Inv M2 ∧ Q y1 y2 ∧ 50 < nt_n M1 ∧ nt_k M1 50 = 11
theorem ly_50 {pl : Nat → Nat} {v : Nat → Int} {M : nt_M} (hB : ly_B pl v M) (h : pl 0 = 50) : 50 < nt_n M ∧ nt_k M 50 = 11 := by
  have g := hB.2.1.2 0 _ (show ly_E.2.1[0]? = some (11, 0, 0, 9) from rfl)
  rw [h] at g
  exact ⟨g.1, g.2.1⟩
theorem ly_two {X : nt_X} {gc gr : Nat} {as : List Value} {M : nt_M} {Q : Int32 → Int32 → Prop} (hI : ly_Inv M) (h1 : ∀ pl v, ly_B pl v M → ly_S pl (fun k => v (3 + k)) (fun k => v (7 + k)) (v 2) M → ∃ (x : Int32) (M' : nt_M), nt_ev X 99 gc (.ref (pl 16) :: as) M (some (.int x), M') ∧ ly_B pl v M' ∧ ly_fs pl M M') (h2 : ∀ pl v M, ly_B pl v M → ∃ (x : Int32) (M' : nt_M), nt_ev X 99 gr (.ref (pl 0) :: as) M (some (.int x), M') ∧ ly_B pl v M' ∧ ly_fs pl M M') (g : ∀ (pl : Nat → Nat) (v : Nat → Int) (y1 : Int32) (M1 : nt_M) (y2 : Int32) (M2 : nt_M), ly_B pl v M → ly_S pl (fun k => v (3 + k)) (fun k => v (7 + k)) (v 2) M → v 0 = v 1 → lq_E pl M → zz_E pl M → ly_B pl v M1 → ly_fr 66 pl M M1 → ly_fr 66 pl M1 M2 → nt_ev X 99 gc (.ref (pl 16) :: as) M (some (.int y1), M1) → nt_ev X 99 gr (.ref (pl 0) :: as) M1 (some (.int y2), M2) → Q y1 y2 ∧ zz_E pl M2) : ly_P X gc gr as M Q := by
  obtain ⟨pl, v, hB, hS, hx, hE, hZ⟩ := hI
  obtain ⟨y1, M1, e1, hB1, f1⟩ := h1 pl v hB hS
  obtain ⟨y2, M2, e2, hB2, f2⟩ := h2 pl v M1 hB1
  have p16 := hS.1.2.1
  have p0 := hS.1.2.2.1
  have key := g pl v y1 M1 y2 M2 hB hS hx hE hZ hB1 f1.1 f2.1 e1 e2
  rw [p16] at e1
  rw [p0] at e2
  exact ⟨y1, M1, y2, M2, e1, e2, ⟨pl, v, hB2, ly_S_fr f2.1 (ly_S_fr f1.1 hS), hx, lq_keep f2.2 (lq_keep f1.2 hE), key.2⟩, key.1, ly_50 hB1 p0⟩
theorem ly_c_feed {X : nt_X} {M : nt_M} (a0 a1 a2 a3 a4 : Int32) (hI : ly_Inv M) : ly_P X 102 130 [.int a0, .int a1, .int a2, .int a3, .int a4] M (fun y1 y2 => y1 = y2) := by
  obtain ⟨pl, v, hB, hS, hx, hE, hZ⟩ := hI
  obtain ⟨y1, M1, e1, hB1, f1⟩ := ly_g5W a0 a1 a2 a3 a4 (ko_w_n_feed X) rfl (by decide +kernel) (by decide +kernel) (d := 99) (by decide) hB
  obtain ⟨y2, M2, e2, hB2, f2⟩ := ly_g5W a0 a1 a2 a3 a4 (ko_w_feed X) rfl (by decide +kernel) (by decide +kernel) (d := 99) (by decide) hB1
  have key := lq_feed2 hB hB1 hE e1 e2
  have kz : zz_E pl M2 := zz_keep2 hS f1 f2 (zz_g5 a0 a1 a2 a3 a4 (ko_w_n_feed X) rfl (by decide +kernel) (by decide +kernel) (by decide) hB e1) (zz_g5 a0 a1 a2 a3 a4 (ko_w_feed X) rfl (by decide +kernel) (by decide +kernel) (by decide) hB1 e2) hZ
  rw [hS.1.2.1] at e1
  rw [hS.1.2.2.1] at e2
  exact ⟨y1, M1, y2, M2, e1, e2, ⟨pl, v, hB2, ly_S_fr f2 (ly_S_fr f1 hS), hx, key.2, kz⟩, key.1, ly_50 hB1 hS.1.2.2.1⟩
theorem ly_c_end {X : nt_X} {M : nt_M} (a0 : Int32) (hI : ly_Inv M) : ly_P X 103 132 [.int a0] M (fun y1 y2 => y1 = y2) := by
  obtain ⟨pl, v, hB, hS, hx, hE, hZ⟩ := hI
  obtain ⟨y1, M1, e1, hB1, f1⟩ := ly_g1W a0 (ko_w_n_end X) rfl (by decide +kernel) (by decide +kernel) (d := 99) (by decide) hB
  obtain ⟨y2, M2, e2, hB2, f2⟩ := ly_g1W a0 (ko_w_end X) rfl (by decide +kernel) (by decide +kernel) (d := 99) (by decide) hB1
  have key := lq_end2 hB hE e1 e2
  have kz : zz_E pl M2 := zz_keep2 hS f1 f2 (zz_g1 a0 (ko_w_n_end X) rfl (by decide +kernel) (by decide +kernel) (by decide) hB e1) (zz_g1 a0 (ko_w_end X) rfl (by decide +kernel) (by decide +kernel) (by decide) hB1 e2) hZ
  rw [hS.1.2.1] at e1
  rw [hS.1.2.2.1] at e2
  exact ⟨y1, M1, y2, M2, e1, e2, ⟨pl, v, hB2, ly_S_fr f2 (ly_S_fr f1 hS), hx, key.2, kz⟩, key.1, ly_50 hB1 hS.1.2.2.1⟩
theorem ly_c_ship {X : nt_X} {M : nt_M} (a0 a1 : Int32) (hI : ly_Inv M) : ly_P X 106 167 [.int a0, .int a1] M (fun _ _ => True) :=
  ly_two hI (fun pl v hB _ => ly_g2 a0 a1 (ko_w_n_ship X) rfl (by decide +kernel) (by decide +kernel) (by decide) hB) (fun pl v M hB => ly_g2 a0 a1 (ko_w_ship X) rfl (by decide +kernel) (by decide +kernel) (by decide) hB) (fun pl v y1 M1 y2 M2 hB hS hx hE hZ hB1 f1 f2 e1 e2 => ⟨trivial, zz_keep2 hS f1 f2 (zz_g2 a0 a1 (ko_w_n_ship X) rfl (by decide +kernel) (by decide +kernel) (by decide) hB e1) (zz_g2 a0 a1 (ko_w_ship X) rfl (by decide +kernel) (by decide +kernel) (by decide) hB1 e2) hZ⟩)
theorem ly_c_plank {X : nt_X} {M : nt_M} (a0 a1 : Int32) (hI : ly_Inv M) : ly_P X 107 176 [.int a0, .int a1] M (fun y1 y2 => y1 = y2) :=
  ly_two hI (fun pl v hB _ => ly_g2 a0 a1 (ko_w_n_plank X) rfl (by decide +kernel) (by decide +kernel) (by decide) hB) (fun pl v M hB => ly_g2 a0 a1 (ko_w_plank X) rfl (by decide +kernel) (by decide +kernel) (by decide) hB) (fun pl v y1 M1 y2 M2 hB hS hx hE hZ hB1 f1 f2 e1 e2 => ⟨zz_a_plank hB hB1 e1 e2 hZ, zz_keep2 hS f1 f2 (zz_g2 a0 a1 (ko_w_n_plank X) rfl (by decide +kernel) (by decide +kernel) (by decide) hB e1) (zz_g2 a0 a1 (ko_w_plank X) rfl (by decide +kernel) (by decide +kernel) (by decide) hB1 e2) hZ⟩)
theorem ly_c_voyage {X : nt_X} {M : nt_M} (a0 a1 : Int32) (hI : ly_Inv M) : ly_P X 108 178 [.int a0, .int a1] M (fun y1 y2 => y1 = y2) :=
  ly_two hI (fun pl v hB _ => ly_g2 a0 a1 (ko_w_n_voyage X) rfl (by decide +kernel) (by decide +kernel) (by decide) hB) (fun pl v M hB => ly_g2 a0 a1 (ko_w_voyage X) rfl (by decide +kernel) (by decide +kernel) (by decide) hB) (fun pl v y1 M1 y2 M2 hB hS hx hE hZ hB1 f1 f2 e1 e2 => ⟨zz_a_voyage hB hB1 e1 e2 hZ, zz_keep2 hS f1 f2 (zz_g2 a0 a1 (ko_w_n_voyage X) rfl (by decide +kernel) (by decide +kernel) (by decide) hB e1) (zz_g2 a0 a1 (ko_w_voyage X) rfl (by decide +kernel) (by decide +kernel) (by decide) hB1 e2) hZ⟩)
theorem ly_c_move {X : nt_X} {M : nt_M} (a0 a1 : Int32) (hI : ly_Inv M) : ly_P X 109 181 [.int a0, .int a1] M (fun y1 y2 => y1 = y2) :=
  ly_two hI (fun pl v hB _ => ly_g2 a0 a1 (ko_w_n_move X) rfl (by decide +kernel) (by decide +kernel) (by decide) hB) (fun pl v M hB => ly_g2 a0 a1 (ko_w_move X) rfl (by decide +kernel) (by decide +kernel) (by decide) hB) (fun pl v y1 M1 y2 M2 hB hS hx hE hZ hB1 f1 f2 e1 e2 => zz_move2 hB hS hB1 f1 f2 e1 e2 hZ)
theorem ly_c_lacks {X : nt_X} {M : nt_M} (a0 a1 : Int32) (hI : ly_Inv M) : ly_P X 113 203 [.int a0, .int a1] M (fun _ _ => True) :=
  ly_two hI (fun pl v hB _ => ly_g2 a0 a1 (ko_w_n_lacks X) rfl (by decide +kernel) (by decide +kernel) (by decide) hB) (fun pl v M hB => ly_g2 a0 a1 (ko_w_lacks X) rfl (by decide +kernel) (by decide +kernel) (by decide) hB) (fun pl v y1 M1 y2 M2 hB hS hx hE hZ hB1 f1 f2 e1 e2 => ⟨trivial, zz_keep2 hS f1 f2 (zz_g2 a0 a1 (ko_w_n_lacks X) rfl (by decide +kernel) (by decide +kernel) (by decide) hB e1) (zz_g2 a0 a1 (ko_w_lacks X) rfl (by decide +kernel) (by decide +kernel) (by decide) hB1 e2) hZ⟩)
theorem ly_c_together {X : nt_X} {M : nt_M} (a0 : Int32) (hI : ly_Inv M) : ly_P X 114 204 [.int a0] M (fun _ _ => True) :=
  ly_two hI (fun pl v hB _ => ly_g1 a0 (ko_w_n_together X) rfl (by decide +kernel) (by decide +kernel) (by decide) hB) (fun pl v M hB => ly_g1 a0 (ko_w_together X) rfl (by decide +kernel) (by decide +kernel) (by decide) hB) (fun pl v y1 M1 y2 M2 hB hS hx hE hZ hB1 f1 f2 e1 e2 => ⟨trivial, zz_keep2 hS f1 f2 (zz_g1 a0 (ko_w_n_together X) rfl (by decide +kernel) (by decide +kernel) (by decide) hB e1) (zz_g1 a0 (ko_w_together X) rfl (by decide +kernel) (by decide +kernel) (by decide) hB1 e2) hZ⟩)
theorem ly_c_cut {X : nt_X} {M : nt_M} (a0 a1 : Int32) (hI : ly_Inv M) : ly_P X 116 211 [.int a0, .int a1] M (fun _ _ => True) :=
  ly_two hI (fun pl v hB _ => ly_g2 a0 a1 (ko_w_n_cut X) rfl (by decide +kernel) (by decide +kernel) (by decide) hB) (fun pl v M hB => ly_g2 a0 a1 (ko_w_cut X) rfl (by decide +kernel) (by decide +kernel) (by decide) hB) (fun pl v y1 M1 y2 M2 hB hS hx hE hZ hB1 f1 f2 e1 e2 => ⟨trivial, zz_keep2 hS f1 f2 (zz_g2 a0 a1 (ko_w_n_cut X) rfl (by decide +kernel) (by decide +kernel) (by decide) hB e1) (zz_g2 a0 a1 (ko_w_cut X) rfl (by decide +kernel) (by decide +kernel) (by decide) hB1 e2) hZ⟩)
theorem ly_c_most {X : nt_X} {M : nt_M} (a0 : Int32) (hI : ly_Inv M) : ly_P X 117 212 [.int a0] M (fun _ _ => True) :=
  ly_two hI (fun pl v hB _ => ly_g1 a0 (ko_w_n_most X) rfl (by decide +kernel) (by decide +kernel) (by decide) hB) (fun pl v M hB => ly_g1 a0 (ko_w_most X) rfl (by decide +kernel) (by decide +kernel) (by decide) hB) (fun pl v y1 M1 y2 M2 hB hS hx hE hZ hB1 f1 f2 e1 e2 => ⟨trivial, zz_keep2 hS f1 f2 (zz_g1 a0 (ko_w_n_most X) rfl (by decide +kernel) (by decide +kernel) (by decide) hB e1) (zz_g1 a0 (ko_w_most X) rfl (by decide +kernel) (by decide +kernel) (by decide) hB1 e2) hZ⟩)
theorem ly_c_willDo {X : nt_X} {M : nt_M} (a0 : Int32) (hI : ly_Inv M) : ly_P X 118 215 [.int a0] M (fun _ _ => True) :=
  ly_two hI (fun pl v hB _ => ly_g1 a0 (ko_w_n_willDo X) rfl (by decide +kernel) (by decide +kernel) (by decide) hB) (fun pl v M hB => ly_g1 a0 (ko_w_willDo X) rfl (by decide +kernel) (by decide +kernel) (by decide) hB) (fun pl v y1 M1 y2 M2 hB hS hx hE hZ hB1 f1 f2 e1 e2 => ⟨trivial, zz_keep2 hS f1 f2 (zz_g1 a0 (ko_w_n_willDo X) rfl (by decide +kernel) (by decide +kernel) (by decide) hB e1) (zz_g1 a0 (ko_w_willDo X) rfl (by decide +kernel) (by decide +kernel) (by decide) hB1 e2) hZ⟩)
theorem ly_c_same {X : nt_X} {M : nt_M} (a0 a1 : Int32) (hI : ly_Inv M) : ly_P X 119 217 [.int a0, .int a1] M (fun y1 y2 => y1 = y2) :=
  ly_two hI (fun pl v hB _ => ly_g2 a0 a1 (ko_w_n_same X) rfl (by decide +kernel) (by decide +kernel) (by decide) hB) (fun pl v M hB => ly_g2 a0 a1 (ko_w_same X) rfl (by decide +kernel) (by decide +kernel) (by decide) hB) (fun pl v y1 M1 y2 M2 hB hS hx hE hZ hB1 f1 f2 e1 e2 => ⟨zz_a_same hB hB1 e1 e2 hZ, zz_keep2 hS f1 f2 (zz_g2 a0 a1 (ko_w_n_same X) rfl (by decide +kernel) (by decide +kernel) (by decide) hB e1) (zz_g2 a0 a1 (ko_w_same X) rfl (by decide +kernel) (by decide +kernel) (by decide) hB1 e2) hZ⟩)
theorem ly_c_unlike {X : nt_X} {M : nt_M} (hI : ly_Inv M) : ly_P X 120 221 [] M (fun y1 y2 => y1 = y2) :=
  ly_two hI (fun pl v hB _ => ly_g0  (ko_w_n_unlike X) rfl (by decide +kernel) (by decide +kernel) (by decide) hB) (fun pl v M hB => ly_g0  (ko_w_unlike X) rfl (by decide +kernel) (by decide +kernel) (by decide) hB) (fun pl v y1 M1 y2 M2 hB hS hx hE hZ hB1 f1 f2 e1 e2 => ⟨zz_a_unlike hB hB1 e1 e2 hZ, zz_keep2 hS f1 f2 (zz_g0  (ko_w_n_unlike X) rfl (by decide +kernel) (by decide +kernel) (by decide) hB e1) (zz_g0  (ko_w_unlike X) rfl (by decide +kernel) (by decide +kernel) (by decide) hB1 e2) hZ⟩)
theorem ly_c_wreck {X : nt_X} {M : nt_M} (a0 a1 : Int32) (hI : ly_Inv M) : ly_P X 121 222 [.int a0, .int a1] M (fun _ _ => True) :=
  ly_two hI (fun pl v hB _ => ly_g2 a0 a1 (ko_w_n_wreck X) rfl (by decide +kernel) (by decide +kernel) (by decide) hB) (fun pl v M hB => ly_g2 a0 a1 (ko_w_wreck X) rfl (by decide +kernel) (by decide +kernel) (by decide) hB) (fun pl v y1 M1 y2 M2 hB hS hx hE hZ hB1 f1 f2 e1 e2 => ⟨trivial, zz_keep2 hS f1 f2 (zz_g2 a0 a1 (ko_w_n_wreck X) rfl (by decide +kernel) (by decide +kernel) (by decide) hB e1) (zz_g2 a0 a1 (ko_w_wreck X) rfl (by decide +kernel) (by decide +kernel) (by decide) hB1 e2) hZ⟩)
theorem ly_c_dealt {X : nt_X} {M : nt_M} (a0 : Int32) (hI : ly_Inv M) : ly_P X 122 223 [.int a0] M (fun y1 y2 => y1 = y2) :=
  ly_two hI (fun pl v hB _ => ly_g1 a0 (ko_w_n_dealt X) rfl (by decide +kernel) (by decide +kernel) (by decide) hB) (fun pl v M hB => ly_g1 a0 (ko_w_dealt X) rfl (by decide +kernel) (by decide +kernel) (by decide) hB) (fun pl v y1 M1 y2 M2 hB hS hx hE hZ hB1 f1 f2 e1 e2 => ⟨zz_a_dealt hB hB1 e1 e2 hZ, zz_keep2 hS f1 f2 (zz_g1 a0 (ko_w_n_dealt X) rfl (by decide +kernel) (by decide +kernel) (by decide) hB e1) (zz_g1 a0 (ko_w_dealt X) rfl (by decide +kernel) (by decide +kernel) (by decide) hB1 e2) hZ⟩)
theorem ly_c_count {X : nt_X} {M : nt_M} (a0 : Int32) (hI : ly_Inv M) : ly_P X 126 233 [.int a0] M (fun y1 y2 => y1 = y2) :=
  ly_two hI (fun pl v hB _ => ly_g1 a0 (ko_w_n_count X) rfl (by decide +kernel) (by decide +kernel) (by decide) hB) (fun pl v M hB => ly_g1 a0 (ko_w_count X) rfl (by decide +kernel) (by decide +kernel) (by decide) hB) (fun pl v y1 M1 y2 M2 hB hS hx hE hZ hB1 f1 f2 e1 e2 => ⟨zz_a_count hB hB1 hx hE e1 e2 hZ, zz_keep2 hS f1 f2 (zz_g1 a0 (ko_w_n_count X) rfl (by decide +kernel) (by decide +kernel) (by decide) hB e1) (zz_g1 a0 (ko_w_count X) rfl (by decide +kernel) (by decide +kernel) (by decide) hB1 e2) hZ⟩)
theorem ly_c_days {X : nt_X} {M : nt_M} (a0 a1 : Int32) (hI : ly_Inv M) : ly_P X 110 186 [.int a0, .int a1] M (fun y1 y2 => y1 = y2) :=
  ly_two hI (fun pl v hB hS => ly_days_C a0 a1 (by decide) hB hS) (fun pl v M hB => ly_days_R a0 a1 (by decide) hB) (fun pl v y1 M1 y2 M2 hB hS hx hE hZ hB1 f1 f2 e1 e2 => zz_days2 hB hS (zz_16 hE) hB1 f1 f2 e1 e2 hZ)
theorem ly_c_ahead {X : nt_X} {M : nt_M} (a0 a1 a2 : Int32) (hI : ly_Inv M) : ly_P X 123 226 [.int a0, .int a1, .int a2] M (fun _ _ => True) :=
  ly_two hI (fun pl v hB hS => ly_ahead_C a0 a1 a2 (by decide) hB hS) (fun pl v M hB => ly_ahead_R a0 a1 a2 (by decide) hB) (fun pl v y1 M1 y2 M2 hB hS hx hE hZ hB1 f1 f2 e1 e2 => ⟨trivial, zz_aheadK hB hS hB1 f1 f2 e1 e2 hZ⟩)
theorem ly_c_years {X : nt_X} {M : nt_M} (a0 a1 a2 a3 a4 : Int32) (hI : ly_Inv M) : ly_P X 125 231 [.int a0, .int a1, .int a2, .int a3, .int a4] M (fun _ _ => True) :=
  ly_two hI (fun pl v hB hS => ly_years_C a0 a1 a2 a3 a4 (by decide) hB hS) (fun pl v M hB => ly_years_R a0 a1 a2 a3 a4 (by decide) hB) (fun pl v y1 M1 y2 M2 hB hS hx hE hZ hB1 f1 f2 e1 e2 => ⟨trivial, zz_yearsK hB hS hB1 f1 f2 e1 e2 hZ⟩)
theorem ly_c_yard {X : nt_X} {M : nt_M} (hI : ly_Inv M) : ly_P X 104 166 [] M (fun y1 y2 => y1 = y2) := by
  obtain ⟨pl, v, hB, hS, hx, hE, hZ⟩ := hI
  obtain ⟨y1, M1, pl', e1, hB1, f1, hp⟩ := ly_yardC (X := X) (d := 99) (by decide) hB
  have hS1 : ly_S pl' (fun k => v (3 + k)) (fun k => v (7 + k)) (v 2) M1 := by
    rcases hp with rfl | rfl
    · exact ly_S_fr f1 hS
    · exact ly_S_sg (ly_S_fr f1 hS)
  obtain ⟨y2, M2, e2, hB2, f2⟩ := ly_g0W (ko_w_yard X) rfl (by decide +kernel) (by decide +kernel) (d := 99) (by decide) hB1
  have s0 : pl' 0 = pl 0 := by rcases hp with rfl | rfl <;> rfl
  have s8 : pl' 8 = pl 8 := by rcases hp with rfl | rfl <;> rfl
  have s16 : pl' 16 = pl 16 := by rcases hp with rfl | rfl <;> rfl
  have s17 : pl' 17 = pl 17 := by rcases hp with rfl | rfl <;> rfl
  have s18 : pl' 18 = pl 18 := by rcases hp with rfl | rfl <;> rfl
  have hE2 : lq_E pl' M2 := by
    obtain ⟨t, n, ht, hn, h17, h01, h8, hb, h16, h02⟩ := hE
    obtain ⟨a17, ao, _⟩ := lq_yardC (by decide) hB e1
    obtain ⟨b01, bo, _⟩ := lq_yardR (by decide) hB1 e2
    dsimp only at a17 ao b01 bo
    have c02 : lq_c 0 2 := Or.inr (Or.inr (Or.inr (Or.inr ⟨rfl, Or.inr rfl⟩)))
    have c8 : ∀ j, lq_c 8 j := fun j => Or.inr (Or.inr (Or.inl rfl))
    have c18 : ∀ j, lq_c 18 j := fun j => Or.inr (Or.inl rfl)
    have c16 : lq_c 16 4 := Or.inr (Or.inr (Or.inr (Or.inl ⟨rfl, rfl⟩)))
    refine ⟨0, n, by omega, hn, ?_, b01, fun j => ?_, fun j => ?_, ?_, ?_⟩
    · rw [bo 17 1 (Or.inl rfl) (by omega), s17]
      exact a17
    · rw [bo 8 j (c8 j) (by omega), bo 18 j (c18 j) (by omega), s8, s18, ao 8 j (c8 j) (by decide), ao 18 j (c18 j) (by decide)]
      exact h8 j
    · rw [bo 18 j (c18 j) (by omega), s18, ao 18 j (c18 j) (by decide)]
      exact hb j
    · rw [bo 16 4 c16 (by omega), s16, ao 16 4 c16 (by decide)]
      exact h16
    · rw [bo 0 2 c02 (by omega), s0, ao 0 2 c02 (by decide)]
      exact h02
  have key : y1 = y2 ∧ zz_E pl' M2 := by
    obtain ⟨t, n, ht, hn, h17, h01, h8, hb, h16, h02⟩ := hE
    exact zz_yard2 hB hS ht h17 h01 h8 hB1 f1 hB2 f2 hp e1 e2 hZ
  rw [hS.1.2.1] at e1
  rw [hS1.1.2.2.1] at e2
  exact ⟨y1, M1, y2, M2, e1, e2, ⟨pl', v, hB2, ly_S_fr f2 hS1, hx, hE2, key.2⟩, key.1, ly_50 hB1 hS1.1.2.2.1⟩
theorem ly_c_rule {X : nt_X} {M : nt_M} (hRR : sx_KOK X (sx_tbs, sx_gps) kk_w_rread2) (hI : ly_Inv M) : ly_P X 105 133 [] M (fun y1 y2 => y1 = y2) := by
  obtain ⟨pl, v, hB, hS, hx, hE, hZ⟩ := hI
  obtain ⟨y1, M1, v', e1, hB1, hS1, hv, hn2, hR⟩ := ly_ruleC (X := X) (d := 95) hRR rfl (by decide) (by decide +kernel) hB hS
  obtain ⟨y2, M2, e2, hB2, f2⟩ := ly_g0W (ko_w_rule X) rfl (by decide +kernel) (by decide +kernel) (d := 99) (by decide) hB1
  have key := zz_rule2 hB hB1 hS hZ hE hn2 hS1 (fun g hg => by have := hS.1.1 g hg; have := hS.1.2.2.2; omega) hR e2
  rw [hS.1.2.1] at e1
  rw [hS.1.2.2.1] at e2
  refine ⟨y1, M1, y2, M2, e1, e2, ⟨pl, v', hB2, ly_S_fr f2 (ly_S_cg (fun k hk => hv (3 + k) (by omega) (by omega)) (fun k hk => hv (7 + k) (by omega) (by omega)) rfl hS1), ?_, key.2.1, key.2.2⟩, key.1, ly_50 hB1 hS.1.2.2.1⟩
  rw [hv 0 (by omega) (by omega), hv 1 (by omega) (by omega)]
  exact hx
theorem ly_c_seed {X : nt_X} {M : nt_M} (x : Int32) (hI : ly_Inv M) : ly_P X 124 230 [.int x] M (fun y1 y2 => y1 = y2) := by
  obtain ⟨pl, v, hB, hS, hx, hE, hZ⟩ := hI
  obtain ⟨y1, M1, v1, e1, hB1, f1, o1, q1⟩ := ly_seedC (X := X) (d := 99) x hB
  obtain ⟨y2, M2, v2, e2, hB2, f2, o2, q2⟩ := ly_seedR (X := X) (d := 99) x hB1
  have kz := zz_seed2 hB hS hB1 f1.1 f2.1 hx e1 e2 hZ
  rw [hS.1.2.1] at e1
  rw [hS.1.2.2.1] at e2
  have a0 := o1 0 (by omega) (by omega)
  have a1 := o2 1 (by omega) (by omega)
  have ee : ∀ s, s < 11 → s ≠ 0 → s ≠ 1 → v2 s = v s := fun s hs h0 h1 => (o2 s hs h0).trans (o1 s hs h1)
  refine ⟨y1, M1, y2, M2, e1, e2, ⟨pl, v2, hB2, ly_S_fr f2.1 (ly_S_fr f1.1 (ly_S_cg (fun k hk => ee (3 + k) (by omega) (by omega) (by omega)) (fun k hk => ee (7 + k) (by omega) (by omega) (by omega)) (ee 2 (by omega) (by omega) (by omega)) hS)), ?_, lq_keep f2.2 (lq_keep f1.2 hE), kz.2⟩, Int32.toInt_inj.mp ?_, ly_50 hB1 hS.1.2.2.1⟩
  · rcases q1 with ⟨c1, _, c3⟩ | ⟨c1, _, c3⟩ <;> rcases q2 with ⟨d1, _, d3⟩ | ⟨d1, _, d3⟩ <;> omega
  · rcases q1 with ⟨c1, c2, _⟩ | ⟨c1, c2, _⟩ <;> rcases q2 with ⟨d1, d2, _⟩ | ⟨d1, d2, _⟩ <;> omega
theorem ly_o1 {X : nt_X} {K : sx_K} {pl : Nat → Nat} {v : Nat → Int} {M : nt_M} {d g dl rv : Nat} {lo hi : Int} {mo : List (Nat × Int × Int)} {rm : List (Nat × Nat)} (a : Int32) (h1 : lo ≤ a.toInt) (h2 : a.toInt ≤ hi) (hK : sx_KOK X (sx_tbs, sx_gps) K) (hKe : K = (g, dl, ly_D ++ [], (mo, rm), [(2, rv, (0, [])), (0, 0, (0, [(11, 1)]))], (ly_C ++ [], ly_R ++ [], (ly_b ++ [(11, lo, hi)], []), 12), [(some (0, 0, (0, [(12, 1)])), (ly_C, ly_R, ([(12, -2147483648, 2147483647)], []), 12 + 1))])) (hmo : mo.all (lq_b 66) = true) (hrm : rm.all (fun q => Nat.blt q.1 66 && (!Nat.beq q.1 23 && !Nat.beq q.1 65)) = true) (hd : dl ≤ d) (hB : ly_B pl v M) : ∃ (x : Int32) (M' : nt_M), nt_ev X d g [.ref (pl rv), .int a] M (some (.int x), M') ∧ ly_B pl v M' ∧ ly_fs pl M M' := by
  obtain ⟨r, hr, h11⟩ : ∃ r : Nat → Int, (∀ s, s < 11 → r s = v s) ∧ r 11 = a.toInt := ⟨fun s => if s = 11 then a.toInt else v s, fun s hs => by dsimp only; rw [if_neg (by omega)], rfl⟩
  exact ly_gen (r := r) hK hKe (by decide) hmo hrm hd hB hr ⟨rfl, ⟨a, rfl, (ly_e1 h11).symm⟩, trivial⟩ (fun q hq => by cases hq) (ly_oba (ly_obr hr (ly_ob hB)) (ly_ob1 (by omega))) ly_oc0
theorem ly_c_image {X : nt_X} {M : nt_M} (a0 : Int32) (hI : ly_Inv M) : ly_P X 127 234 [.int a0] M (fun _ _ => True) := by
  have la := a0.le_toInt
  have lb := a0.toInt_lt
  by_cases c1 : a0.toInt < 0
  · exact ly_two hI (fun pl v hB _ => ly_o1 a0 (by omega) (by omega) (ko_w_n_imageL X) rfl (by decide +kernel) (by decide +kernel) (by decide) hB) (fun pl v M hB => ly_o1 a0 (by omega) (by omega) (ko_w_imageL X) rfl (by decide +kernel) (by decide +kernel) (by decide) hB) (fun pl v y1 M1 y2 M2 hB hS hx hE hZ hB1 f1 f2 e1 e2 => ⟨trivial, zz_keep2 hS f1 f2 (zz_o1 a0 (by omega) (by omega) (ko_w_n_imageL X) rfl (by decide +kernel) (by decide) hB e1) (zz_o1 a0 (by omega) (by omega) (ko_w_imageL X) rfl (by decide +kernel) (by decide) hB1 e2) hZ⟩)
  by_cases c2 : 3 < a0.toInt
  · exact ly_two hI (fun pl v hB _ => ly_o1 a0 (by omega) (by omega) (ko_w_n_imageH X) rfl (by decide +kernel) (by decide +kernel) (by decide) hB) (fun pl v M hB => ly_o1 a0 (by omega) (by omega) (ko_w_imageH X) rfl (by decide +kernel) (by decide +kernel) (by decide) hB) (fun pl v y1 M1 y2 M2 hB hS hx hE hZ hB1 f1 f2 e1 e2 => ⟨trivial, zz_keep2 hS f1 f2 (zz_o1 a0 (by omega) (by omega) (ko_w_n_imageH X) rfl (by decide +kernel) (by decide) hB e1) (zz_o1 a0 (by omega) (by omega) (ko_w_imageH X) rfl (by decide +kernel) (by decide) hB1 e2) hZ⟩)
  obtain ⟨pl, v, hB, hS, hx, hE, hZ⟩ := hI
  have p16 := hS.1.2.1
  have p0 := hS.1.2.2.1
  by_cases k0 : a0.toInt = 0
  · have ea : a0 = nI 0 := Int32.toInt_inj.mp (by rw [nI_toInt (by decide)]; exact k0)
    subst ea
    have fin : ∀ (y1 : Int32) (M1 : nt_M), nt_ev X 99 127 [.ref (pl 16), .int (nI 0)] M (some (.int y1), M1) → lq_T pl M M1 → lq_I X pl v 99 0 y1 M M1 → ly_B pl v M1 → ly_S pl (fun i => if i = 0 then 1 else v (3 + i)) (fun i => if i = 0 then v 1 else v (7 + i)) (v 2) M1 → ly_P X 127 234 [.int (nI 0)] M (fun _ _ => True) := by
      intro y1 M1 e1 q1 i1 hB1 hS1
      obtain ⟨y2, M2, e2, hB2, f2⟩ := ly_imgR0 (X := X) (d := 99) (by decide) hB1
      have key := zz_img2 (k := 0) (by decide) hB hS i1 hB1 hS1 f2.1 e2 hZ
      rw [p16] at e1
      rw [p0] at e2
      refine ⟨y1, M1, y2, M2, e1, e2, ⟨pl, _, hB2, ly_S_fr f2.1 (ly_S_cg (fun i hi => ?_) (fun i hi => ?_) rfl hS1), hx, lq_keep f2.2 (lq_keep q1 hE), key.2⟩, trivial, ly_50 hB1 p0⟩
      · rcases (by omega : i = 0 ∨ i = 1 ∨ i = 2 ∨ i = 3) with rfl | rfl | rfl | rfl <;> rfl
      · rcases (by omega : i = 0 ∨ i = 1 ∨ i = 2 ∨ i = 3) with rfl | rfl | rfl | rfl <;> first | rfl | exact hx
    obtain ⟨T, p7⟩ : ∃ T : Nat → Nat, (nt_R M (pl 65) 0 = none ∧ v 3 = 0) ∨ v 3 = 1 := by
      obtain ⟨_, _, T, p7, _⟩ := hS
      rcases p7 0 (by decide) with c | ⟨_, _, c, _⟩
      · exact ⟨T, Or.inl c⟩
      · exact ⟨T, Or.inr c⟩
    rcases p7 with ⟨_, c⟩ | c
    · obtain ⟨y1, M1, e1, q1, i1, hB1, hS1⟩ := ly_imgN (X := X) (d := 96) (k := 0) (ko_w_n_image0 X) rfl (by decide +kernel) (by decide) hB hS c
      exact fin y1 M1 e1 q1 i1 hB1 hS1
    · obtain ⟨y1, M1, e1, q1, i1, hB1, hS1⟩ := ly_imgC (X := X) (d := 99) (k := 0) (ko_w_n_image0 X) rfl (by decide +kernel) (by decide) (by decide) hB hS c
      refine fin y1 M1 e1 q1 i1 hB1 (ly_S_cg (fun i hi => ?_) (fun i hi => rfl) rfl hS1)
      rcases (by omega : i = 0 ∨ i = 1 ∨ i = 2 ∨ i = 3) with rfl | rfl | rfl | rfl <;> first | rfl | exact c.symm
  by_cases k1 : a0.toInt = 1
  · have ea : a0 = nI 1 := Int32.toInt_inj.mp (by rw [nI_toInt (by decide)]; exact k1)
    subst ea
    have fin : ∀ (y1 : Int32) (M1 : nt_M), nt_ev X 99 127 [.ref (pl 16), .int (nI 1)] M (some (.int y1), M1) → lq_T pl M M1 → lq_I X pl v 99 1 y1 M M1 → ly_B pl v M1 → ly_S pl (fun i => if i = 1 then 1 else v (3 + i)) (fun i => if i = 1 then v 1 else v (7 + i)) (v 2) M1 → ly_P X 127 234 [.int (nI 1)] M (fun _ _ => True) := by
      intro y1 M1 e1 q1 i1 hB1 hS1
      obtain ⟨y2, M2, e2, hB2, f2⟩ := ly_imgR1 (X := X) (d := 99) (by decide) hB1
      have key := zz_img2 (k := 1) (by decide) hB hS i1 hB1 hS1 f2.1 e2 hZ
      rw [p16] at e1
      rw [p0] at e2
      refine ⟨y1, M1, y2, M2, e1, e2, ⟨pl, _, hB2, ly_S_fr f2.1 (ly_S_cg (fun i hi => ?_) (fun i hi => ?_) rfl hS1), hx, lq_keep f2.2 (lq_keep q1 hE), key.2⟩, trivial, ly_50 hB1 p0⟩
      · rcases (by omega : i = 0 ∨ i = 1 ∨ i = 2 ∨ i = 3) with rfl | rfl | rfl | rfl <;> rfl
      · rcases (by omega : i = 0 ∨ i = 1 ∨ i = 2 ∨ i = 3) with rfl | rfl | rfl | rfl <;> first | rfl | exact hx
    obtain ⟨T, p7⟩ : ∃ T : Nat → Nat, (nt_R M (pl 65) 1 = none ∧ v 4 = 0) ∨ v 4 = 1 := by
      obtain ⟨_, _, T, p7, _⟩ := hS
      rcases p7 1 (by decide) with c | ⟨_, _, c, _⟩
      · exact ⟨T, Or.inl c⟩
      · exact ⟨T, Or.inr c⟩
    rcases p7 with ⟨_, c⟩ | c
    · obtain ⟨y1, M1, e1, q1, i1, hB1, hS1⟩ := ly_imgN (X := X) (d := 96) (k := 1) (ko_w_n_image1 X) rfl (by decide +kernel) (by decide) hB hS c
      exact fin y1 M1 e1 q1 i1 hB1 hS1
    · obtain ⟨y1, M1, e1, q1, i1, hB1, hS1⟩ := ly_imgC (X := X) (d := 99) (k := 1) (ko_w_n_image1 X) rfl (by decide +kernel) (by decide) (by decide) hB hS c
      refine fin y1 M1 e1 q1 i1 hB1 (ly_S_cg (fun i hi => ?_) (fun i hi => rfl) rfl hS1)
      rcases (by omega : i = 0 ∨ i = 1 ∨ i = 2 ∨ i = 3) with rfl | rfl | rfl | rfl <;> first | rfl | exact c.symm
  by_cases k2 : a0.toInt = 2
  · have ea : a0 = nI 2 := Int32.toInt_inj.mp (by rw [nI_toInt (by decide)]; exact k2)
    subst ea
    have fin : ∀ (y1 : Int32) (M1 : nt_M), nt_ev X 99 127 [.ref (pl 16), .int (nI 2)] M (some (.int y1), M1) → lq_T pl M M1 → lq_I X pl v 99 2 y1 M M1 → ly_B pl v M1 → ly_S pl (fun i => if i = 2 then 1 else v (3 + i)) (fun i => if i = 2 then v 1 else v (7 + i)) (v 2) M1 → ly_P X 127 234 [.int (nI 2)] M (fun _ _ => True) := by
      intro y1 M1 e1 q1 i1 hB1 hS1
      obtain ⟨y2, M2, e2, hB2, f2⟩ := ly_imgR2 (X := X) (d := 99) (by decide) hB1
      have key := zz_img2 (k := 2) (by decide) hB hS i1 hB1 hS1 f2.1 e2 hZ
      rw [p16] at e1
      rw [p0] at e2
      refine ⟨y1, M1, y2, M2, e1, e2, ⟨pl, _, hB2, ly_S_fr f2.1 (ly_S_cg (fun i hi => ?_) (fun i hi => ?_) rfl hS1), hx, lq_keep f2.2 (lq_keep q1 hE), key.2⟩, trivial, ly_50 hB1 p0⟩
      · rcases (by omega : i = 0 ∨ i = 1 ∨ i = 2 ∨ i = 3) with rfl | rfl | rfl | rfl <;> rfl
      · rcases (by omega : i = 0 ∨ i = 1 ∨ i = 2 ∨ i = 3) with rfl | rfl | rfl | rfl <;> first | rfl | exact hx
    obtain ⟨T, p7⟩ : ∃ T : Nat → Nat, (nt_R M (pl 65) 2 = none ∧ v 5 = 0) ∨ v 5 = 1 := by
      obtain ⟨_, _, T, p7, _⟩ := hS
      rcases p7 2 (by decide) with c | ⟨_, _, c, _⟩
      · exact ⟨T, Or.inl c⟩
      · exact ⟨T, Or.inr c⟩
    rcases p7 with ⟨_, c⟩ | c
    · obtain ⟨y1, M1, e1, q1, i1, hB1, hS1⟩ := ly_imgN (X := X) (d := 96) (k := 2) (ko_w_n_image2 X) rfl (by decide +kernel) (by decide) hB hS c
      exact fin y1 M1 e1 q1 i1 hB1 hS1
    · obtain ⟨y1, M1, e1, q1, i1, hB1, hS1⟩ := ly_imgC (X := X) (d := 99) (k := 2) (ko_w_n_image2 X) rfl (by decide +kernel) (by decide) (by decide) hB hS c
      refine fin y1 M1 e1 q1 i1 hB1 (ly_S_cg (fun i hi => ?_) (fun i hi => rfl) rfl hS1)
      rcases (by omega : i = 0 ∨ i = 1 ∨ i = 2 ∨ i = 3) with rfl | rfl | rfl | rfl <;> first | rfl | exact c.symm
  by_cases k3 : a0.toInt = 3
  · have ea : a0 = nI 3 := Int32.toInt_inj.mp (by rw [nI_toInt (by decide)]; exact k3)
    subst ea
    have fin : ∀ (y1 : Int32) (M1 : nt_M), nt_ev X 99 127 [.ref (pl 16), .int (nI 3)] M (some (.int y1), M1) → lq_T pl M M1 → lq_I X pl v 99 3 y1 M M1 → ly_B pl v M1 → ly_S pl (fun i => if i = 3 then 1 else v (3 + i)) (fun i => if i = 3 then v 1 else v (7 + i)) (v 2) M1 → ly_P X 127 234 [.int (nI 3)] M (fun _ _ => True) := by
      intro y1 M1 e1 q1 i1 hB1 hS1
      obtain ⟨y2, M2, e2, hB2, f2⟩ := ly_imgR3 (X := X) (d := 99) (by decide) hB1
      have key := zz_img2 (k := 3) (by decide) hB hS i1 hB1 hS1 f2.1 e2 hZ
      rw [p16] at e1
      rw [p0] at e2
      refine ⟨y1, M1, y2, M2, e1, e2, ⟨pl, _, hB2, ly_S_fr f2.1 (ly_S_cg (fun i hi => ?_) (fun i hi => ?_) rfl hS1), hx, lq_keep f2.2 (lq_keep q1 hE), key.2⟩, trivial, ly_50 hB1 p0⟩
      · rcases (by omega : i = 0 ∨ i = 1 ∨ i = 2 ∨ i = 3) with rfl | rfl | rfl | rfl <;> rfl
      · rcases (by omega : i = 0 ∨ i = 1 ∨ i = 2 ∨ i = 3) with rfl | rfl | rfl | rfl <;> first | rfl | exact hx
    obtain ⟨T, p7⟩ : ∃ T : Nat → Nat, (nt_R M (pl 65) 3 = none ∧ v 6 = 0) ∨ v 6 = 1 := by
      obtain ⟨_, _, T, p7, _⟩ := hS
      rcases p7 3 (by decide) with c | ⟨_, _, c, _⟩
      · exact ⟨T, Or.inl c⟩
      · exact ⟨T, Or.inr c⟩
    rcases p7 with ⟨_, c⟩ | c
    · obtain ⟨y1, M1, e1, q1, i1, hB1, hS1⟩ := ly_imgN (X := X) (d := 96) (k := 3) (ko_w_n_image3 X) rfl (by decide +kernel) (by decide) hB hS c
      exact fin y1 M1 e1 q1 i1 hB1 hS1
    · obtain ⟨y1, M1, e1, q1, i1, hB1, hS1⟩ := ly_imgC (X := X) (d := 99) (k := 3) (ko_w_n_image3 X) rfl (by decide +kernel) (by decide) (by decide) hB hS c
      refine fin y1 M1 e1 q1 i1 hB1 (ly_S_cg (fun i hi => ?_) (fun i hi => rfl) rfl hS1)
      rcases (by omega : i = 0 ∨ i = 1 ∨ i = 2 ∨ i = 3) with rfl | rfl | rfl | rfl <;> first | rfl | exact c.symm
  omega
theorem ly_c_back {X : nt_X} {M : nt_M} (a0 : Int32) (hI : ly_Inv M) : ly_P X 128 235 [.int a0] M (fun _ _ => True) := by
  have la := a0.le_toInt
  have lb := a0.toInt_lt
  by_cases c1 : a0.toInt < 0
  · exact ly_two hI (fun pl v hB _ => ly_o1 a0 (by omega) (by omega) (ko_w_n_backL X) rfl (by decide +kernel) (by decide +kernel) (by decide) hB) (fun pl v M hB => ly_o1 a0 (by omega) (by omega) (ko_w_backL X) rfl (by decide +kernel) (by decide +kernel) (by decide) hB) (fun pl v y1 M1 y2 M2 hB hS hx hE hZ hB1 f1 f2 e1 e2 => ⟨trivial, zz_keep2 hS f1 f2 (zz_o1 a0 (by omega) (by omega) (ko_w_n_backL X) rfl (by decide +kernel) (by decide) hB e1) (zz_o1 a0 (by omega) (by omega) (ko_w_backL X) rfl (by decide +kernel) (by decide) hB1 e2) hZ⟩)
  by_cases c2 : 3 < a0.toInt
  · exact ly_two hI (fun pl v hB _ => ly_o1 a0 (by omega) (by omega) (ko_w_n_backH X) rfl (by decide +kernel) (by decide +kernel) (by decide) hB) (fun pl v M hB => ly_o1 a0 (by omega) (by omega) (ko_w_backH X) rfl (by decide +kernel) (by decide +kernel) (by decide) hB) (fun pl v y1 M1 y2 M2 hB hS hx hE hZ hB1 f1 f2 e1 e2 => ⟨trivial, zz_keep2 hS f1 f2 (zz_o1 a0 (by omega) (by omega) (ko_w_n_backH X) rfl (by decide +kernel) (by decide) hB e1) (zz_o1 a0 (by omega) (by omega) (ko_w_backH X) rfl (by decide +kernel) (by decide) hB1 e2) hZ⟩)
  obtain ⟨pl, v, hB, hS, hx, hE, hZ⟩ := hI
  have p16 := hS.1.2.1
  have p0 := hS.1.2.2.1
  by_cases k0 : a0.toInt = 0
  · have ea : a0 = nI 0 := Int32.toInt_inj.mp (by rw [nI_toInt (by decide)]; exact k0)
    subst ea
    obtain ⟨T, p7⟩ : ∃ T : Nat → Nat, (nt_R M (pl 65) 0 = none ∧ v 3 = 0) ∨ v 3 = 1 := by
      obtain ⟨_, _, T, p7, _⟩ := hS
      rcases p7 0 (by decide) with c | ⟨_, _, c, _⟩
      · exact ⟨T, Or.inl c⟩
      · exact ⟨T, Or.inr c⟩
    rcases p7 with ⟨cn, c⟩ | c
    · obtain ⟨y1, M1, e1, hB1, f1⟩ := ly_backN (X := X) (d := 99) (k := 0) (ko_w_n_back0N X) rfl (by decide) hB cn
      obtain ⟨y2, M2, e2, hB2, f2⟩ := ly_gen (X := X) (d := 99) (r := v) (ec := []) (vs := [.ref (pl 0), .int (nI 0)]) (ko_w_back0N X) rfl (by decide) (by decide +kernel) (by decide +kernel) (by decide) hB1 (fun _ _ => rfl) ⟨rfl, ⟨nI 0, rfl, (sx_c_e v 0).symm⟩, trivial⟩ (fun q hq => by cases hq) (ly_oba (ly_ob1 (by omega)) (ly_ob hB1)) ly_oc0
      have key := zz_back2N (k := 0) (by decide) hB cn hB1 (zz_15N (k := 0) hB (by decide) c) e1 e2 hZ
      rw [p16] at e1
      rw [p0] at e2
      exact ⟨y1, M1, y2, M2, e1, e2, ⟨pl, v, hB2, ly_S_fr f2.1 (ly_S_fr f1.1 hS), hx, lq_keep f2.2 (lq_keep f1.2 hE), key.2⟩, trivial, ly_50 hB1 p0⟩
    · obtain ⟨y1, M1, e1, hB1, f1⟩ := ly_backC (X := X) (d := 99) (k := 0) (ko_w_n_back0 X) rfl (by decide +kernel) (by decide) (by decide) hB hS c
      obtain ⟨y2, M2, e2, hB2, f2⟩ := ly_backR0 (X := X) (d := 99) (by decide) hB1 c
      have key := zz_back2 (k := 0) (by decide) hB hS c hB1 (zz_15 (k := 0) hB (by decide) c) e1 e2 hZ
      rw [p16] at e1
      rw [p0] at e2
      exact ⟨y1, M1, y2, M2, e1, e2, ⟨pl, _, hB2, ly_S_fr f2.1 (ly_S_fr f1.1 (ly_S_cg (fun i hi => by rcases (by omega : i = 0 ∨ i = 1 ∨ i = 2 ∨ i = 3) with rfl | rfl | rfl | rfl <;> rfl) (fun i hi => by rcases (by omega : i = 0 ∨ i = 1 ∨ i = 2 ∨ i = 3) with rfl | rfl | rfl | rfl <;> rfl) rfl hS)), rfl, lq_keep f2.2 (lq_keep f1.2 hE), key.2⟩, trivial, ly_50 hB1 p0⟩
  by_cases k1 : a0.toInt = 1
  · have ea : a0 = nI 1 := Int32.toInt_inj.mp (by rw [nI_toInt (by decide)]; exact k1)
    subst ea
    obtain ⟨T, p7⟩ : ∃ T : Nat → Nat, (nt_R M (pl 65) 1 = none ∧ v 4 = 0) ∨ v 4 = 1 := by
      obtain ⟨_, _, T, p7, _⟩ := hS
      rcases p7 1 (by decide) with c | ⟨_, _, c, _⟩
      · exact ⟨T, Or.inl c⟩
      · exact ⟨T, Or.inr c⟩
    rcases p7 with ⟨cn, c⟩ | c
    · obtain ⟨y1, M1, e1, hB1, f1⟩ := ly_backN (X := X) (d := 99) (k := 1) (ko_w_n_back1N X) rfl (by decide) hB cn
      obtain ⟨y2, M2, e2, hB2, f2⟩ := ly_gen (X := X) (d := 99) (r := v) (ec := []) (vs := [.ref (pl 0), .int (nI 1)]) (ko_w_back1N X) rfl (by decide) (by decide +kernel) (by decide +kernel) (by decide) hB1 (fun _ _ => rfl) ⟨rfl, ⟨nI 1, rfl, (sx_c_e v 1).symm⟩, trivial⟩ (fun q hq => by cases hq) (ly_oba (ly_ob1 (by omega)) (ly_ob hB1)) ly_oc0
      have key := zz_back2N (k := 1) (by decide) hB cn hB1 (zz_15N (k := 1) hB (by decide) c) e1 e2 hZ
      rw [p16] at e1
      rw [p0] at e2
      exact ⟨y1, M1, y2, M2, e1, e2, ⟨pl, v, hB2, ly_S_fr f2.1 (ly_S_fr f1.1 hS), hx, lq_keep f2.2 (lq_keep f1.2 hE), key.2⟩, trivial, ly_50 hB1 p0⟩
    · obtain ⟨y1, M1, e1, hB1, f1⟩ := ly_backC (X := X) (d := 99) (k := 1) (ko_w_n_back1 X) rfl (by decide +kernel) (by decide) (by decide) hB hS c
      obtain ⟨y2, M2, e2, hB2, f2⟩ := ly_backR1 (X := X) (d := 99) (by decide) hB1 c
      have key := zz_back2 (k := 1) (by decide) hB hS c hB1 (zz_15 (k := 1) hB (by decide) c) e1 e2 hZ
      rw [p16] at e1
      rw [p0] at e2
      exact ⟨y1, M1, y2, M2, e1, e2, ⟨pl, _, hB2, ly_S_fr f2.1 (ly_S_fr f1.1 (ly_S_cg (fun i hi => by rcases (by omega : i = 0 ∨ i = 1 ∨ i = 2 ∨ i = 3) with rfl | rfl | rfl | rfl <;> rfl) (fun i hi => by rcases (by omega : i = 0 ∨ i = 1 ∨ i = 2 ∨ i = 3) with rfl | rfl | rfl | rfl <;> rfl) rfl hS)), rfl, lq_keep f2.2 (lq_keep f1.2 hE), key.2⟩, trivial, ly_50 hB1 p0⟩
  by_cases k2 : a0.toInt = 2
  · have ea : a0 = nI 2 := Int32.toInt_inj.mp (by rw [nI_toInt (by decide)]; exact k2)
    subst ea
    obtain ⟨T, p7⟩ : ∃ T : Nat → Nat, (nt_R M (pl 65) 2 = none ∧ v 5 = 0) ∨ v 5 = 1 := by
      obtain ⟨_, _, T, p7, _⟩ := hS
      rcases p7 2 (by decide) with c | ⟨_, _, c, _⟩
      · exact ⟨T, Or.inl c⟩
      · exact ⟨T, Or.inr c⟩
    rcases p7 with ⟨cn, c⟩ | c
    · obtain ⟨y1, M1, e1, hB1, f1⟩ := ly_backN (X := X) (d := 99) (k := 2) (ko_w_n_back2N X) rfl (by decide) hB cn
      obtain ⟨y2, M2, e2, hB2, f2⟩ := ly_gen (X := X) (d := 99) (r := v) (ec := []) (vs := [.ref (pl 0), .int (nI 2)]) (ko_w_back2N X) rfl (by decide) (by decide +kernel) (by decide +kernel) (by decide) hB1 (fun _ _ => rfl) ⟨rfl, ⟨nI 2, rfl, (sx_c_e v 2).symm⟩, trivial⟩ (fun q hq => by cases hq) (ly_oba (ly_ob1 (by omega)) (ly_ob hB1)) ly_oc0
      have key := zz_back2N (k := 2) (by decide) hB cn hB1 (zz_15N (k := 2) hB (by decide) c) e1 e2 hZ
      rw [p16] at e1
      rw [p0] at e2
      exact ⟨y1, M1, y2, M2, e1, e2, ⟨pl, v, hB2, ly_S_fr f2.1 (ly_S_fr f1.1 hS), hx, lq_keep f2.2 (lq_keep f1.2 hE), key.2⟩, trivial, ly_50 hB1 p0⟩
    · obtain ⟨y1, M1, e1, hB1, f1⟩ := ly_backC (X := X) (d := 99) (k := 2) (ko_w_n_back2 X) rfl (by decide +kernel) (by decide) (by decide) hB hS c
      obtain ⟨y2, M2, e2, hB2, f2⟩ := ly_backR2 (X := X) (d := 99) (by decide) hB1 c
      have key := zz_back2 (k := 2) (by decide) hB hS c hB1 (zz_15 (k := 2) hB (by decide) c) e1 e2 hZ
      rw [p16] at e1
      rw [p0] at e2
      exact ⟨y1, M1, y2, M2, e1, e2, ⟨pl, _, hB2, ly_S_fr f2.1 (ly_S_fr f1.1 (ly_S_cg (fun i hi => by rcases (by omega : i = 0 ∨ i = 1 ∨ i = 2 ∨ i = 3) with rfl | rfl | rfl | rfl <;> rfl) (fun i hi => by rcases (by omega : i = 0 ∨ i = 1 ∨ i = 2 ∨ i = 3) with rfl | rfl | rfl | rfl <;> rfl) rfl hS)), rfl, lq_keep f2.2 (lq_keep f1.2 hE), key.2⟩, trivial, ly_50 hB1 p0⟩
  by_cases k3 : a0.toInt = 3
  · have ea : a0 = nI 3 := Int32.toInt_inj.mp (by rw [nI_toInt (by decide)]; exact k3)
    subst ea
    obtain ⟨T, p7⟩ : ∃ T : Nat → Nat, (nt_R M (pl 65) 3 = none ∧ v 6 = 0) ∨ v 6 = 1 := by
      obtain ⟨_, _, T, p7, _⟩ := hS
      rcases p7 3 (by decide) with c | ⟨_, _, c, _⟩
      · exact ⟨T, Or.inl c⟩
      · exact ⟨T, Or.inr c⟩
    rcases p7 with ⟨cn, c⟩ | c
    · obtain ⟨y1, M1, e1, hB1, f1⟩ := ly_backN (X := X) (d := 99) (k := 3) (ko_w_n_back3N X) rfl (by decide) hB cn
      obtain ⟨y2, M2, e2, hB2, f2⟩ := ly_gen (X := X) (d := 99) (r := v) (ec := []) (vs := [.ref (pl 0), .int (nI 3)]) (ko_w_back3N X) rfl (by decide) (by decide +kernel) (by decide +kernel) (by decide) hB1 (fun _ _ => rfl) ⟨rfl, ⟨nI 3, rfl, (sx_c_e v 3).symm⟩, trivial⟩ (fun q hq => by cases hq) (ly_oba (ly_ob1 (by omega)) (ly_ob hB1)) ly_oc0
      have key := zz_back2N (k := 3) (by decide) hB cn hB1 (zz_15N (k := 3) hB (by decide) c) e1 e2 hZ
      rw [p16] at e1
      rw [p0] at e2
      exact ⟨y1, M1, y2, M2, e1, e2, ⟨pl, v, hB2, ly_S_fr f2.1 (ly_S_fr f1.1 hS), hx, lq_keep f2.2 (lq_keep f1.2 hE), key.2⟩, trivial, ly_50 hB1 p0⟩
    · obtain ⟨y1, M1, e1, hB1, f1⟩ := ly_backC (X := X) (d := 99) (k := 3) (ko_w_n_back3 X) rfl (by decide +kernel) (by decide) (by decide) hB hS c
      obtain ⟨y2, M2, e2, hB2, f2⟩ := ly_backR3 (X := X) (d := 99) (by decide) hB1 c
      have key := zz_back2 (k := 3) (by decide) hB hS c hB1 (zz_15 (k := 3) hB (by decide) c) e1 e2 hZ
      rw [p16] at e1
      rw [p0] at e2
      exact ⟨y1, M1, y2, M2, e1, e2, ⟨pl, _, hB2, ly_S_fr f2.1 (ly_S_fr f1.1 (ly_S_cg (fun i hi => by rcases (by omega : i = 0 ∨ i = 1 ∨ i = 2 ∨ i = 3) with rfl | rfl | rfl | rfl <;> rfl) (fun i hi => by rcases (by omega : i = 0 ∨ i = 1 ∨ i = 2 ∨ i = 3) with rfl | rfl | rfl | rfl <;> rfl) rfl hS)), rfl, lq_keep f2.2 (lq_keep f1.2 hE), key.2⟩, trivial, ly_50 hB1 p0⟩
  omega
