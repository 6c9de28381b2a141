/-! the class reads a yard: now and spare may change places -/
def ly_sg (g : Nat) : Nat := if 31 ≤ g ∧ g < 48 then g + 17 else if 48 ≤ g ∧ g < 65 then g - 17 else g
theorem ly_sg_lt {g : Nat} (h : g < 66) : ly_sg g < 66 := by
  unfold ly_sg
  split
  · omega
  · split <;> omega
theorem ly_sg_inj {a b : Nat} (h : ly_sg a = ly_sg b) : a = b := by
  unfold ly_sg at h
  by_cases a1 : 31 ≤ a ∧ a < 48
  · rw [if_pos a1] at h
    by_cases b1 : 31 ≤ b ∧ b < 48
    · rw [if_pos b1] at h; omega
    · rw [if_neg b1] at h
      by_cases b2 : 48 ≤ b ∧ b < 65
      · rw [if_pos b2] at h; omega
      · rw [if_neg b2] at h; omega
  · rw [if_neg a1] at h
    by_cases a2 : 48 ≤ a ∧ a < 65
    · rw [if_pos a2] at h
      by_cases b1 : 31 ≤ b ∧ b < 48
      · rw [if_pos b1] at h; omega
      · rw [if_neg b1] at h
        by_cases b2 : 48 ≤ b ∧ b < 65
        · rw [if_pos b2] at h; omega
        · rw [if_neg b2] at h; omega
    · rw [if_neg a2] at h
      by_cases b1 : 31 ≤ b ∧ b < 48
      · rw [if_pos b1] at h; omega
      · rw [if_neg b1] at h
        by_cases b2 : 48 ≤ b ∧ b < 65
        · rw [if_pos b2] at h; omega
        · rw [if_neg b2] at h; exact h
theorem ly_sg_D : (List.range 66).all (fun g => (match ly_D[g]?, ly_D[ly_sg g]? with | some p, some q => sx_deq p q | _, _ => false)) = true := by decide +kernel
def ly_RS : sx_R := (kk_w_n_yard.2.2.2.2.2.2.getD 1 (none, ([], [], ([], []), 0))).2.2.1
theorem ly_sg_R : ly_R.all (fun q => ly_RS.any (fun p => Nat.beq p.1.1 (ly_sg q.1.1) && (sx_leq p.1.2 q.1.2 && Nat.beq p.2 (ly_sg (q.2 - 1) + 1)))) = true := by decide +kernel
theorem ly_yardC {X : nt_X} {pl : Nat → Nat} {v : Nat → Int} {M : nt_M} {d : Nat} (hd : 9 ≤ d) (hB : ly_B pl v M) : ∃ (y : Int32) (M' : nt_M) (pl' : Nat → Nat), nt_ev X d 104 [.ref (pl 16)] M (some (.int y), M') ∧ ly_B pl' v M' ∧ ly_fr 66 pl M M' ∧ (pl' = pl ∨ pl' = fun g => pl (ly_sg g)) := by
  have hij := ly_ij (K := kk_w_n_yard) rfl hB
  have hon := ly_app (K := kk_w_n_yard) (r := v) (ed := []) (ec := []) (er := []) rfl hB (fun _ _ => rfl) (fun _ _ => rfl) hij ly_nil (fun q hq => by cases hq) (fun q hq => by cases hq) (ly_ob hB) ly_oc0
  obtain ⟨o, h1, p, hp, r', h2, h3⟩ := ly_run (ko_w_n_yard X) hd (vs := [.ref (pl 16)]) ⟨rfl, trivial⟩ hon
  have hr' : ∀ s, s < 11 → r' s = v s := fun s hs => h3.2.2.2.2.2.1 s hs
  have fr := ly_frm (n := 66) (Nat.le_of_eq rfl) (Nat.le_refl _) hij (by decide +kernel) (by decide +kernel) h3.2.2.2.2.2.2
  obtain ⟨ov, M'⟩ := o
  rcases List.mem_cons.mp hp with rfl | hp
  · cases ov with
    | none => exact h2.elim
    | some w =>
      obtain ⟨y, rfl, hy⟩ := h2
      exact ⟨y, M', pl, h1, ly_bk (ed := []) rfl rfl (fun _ _ => rfl) h3 (ly_oiC (more := []) (fun _ _ => rfl) rfl h3.2.2.1 hr') (ly_or2 (more := []) (fun _ _ => rfl) h3.2.2.2.1), fr, Or.inl rfl⟩
  · rw [List.mem_singleton.mp hp] at h2 h3
    cases ov with
    | none => exact h2.elim
    | some w =>
      obtain ⟨y, rfl, hy⟩ := h2
      refine ⟨y, M', fun g => pl (ly_sg g), h1, ⟨fun a b ha hb e => ?_, ⟨h3.2.1.1, fun g q hq => ?_⟩, fun q hq => ?_, fun q hq => ?_⟩, fr, Or.inr rfl⟩
      · have ha : a < 66 := ha
        have hb : b < 66 := hb
        exact ly_sg_inj (hB.1 (ly_sg a) (ly_sg b) (ly_sg_lt ha) (ly_sg_lt hb) e)
      · have hq0 : ly_D[g]? = some q := hq
        have hg : g < 66 := (List.getElem?_eq_some_iff.mp hq0).1
        have l := List.all_eq_true.mp ly_sg_D g (List.mem_range.mpr hg)
        rw [hq0] at l
        cases hs : ly_D[ly_sg g]? with
        | none => rw [hs] at l; cases l
        | some q' =>
          rw [hs] at l
          have l := sx_deq_ok l
          exact h3.2.1.2 (ly_sg g) q (by rw [l]; exact hs)
      · have key : ∀ (g g' : Nat) (j : Int) (u : Nat), g < 66 → ly_sg g = g' → g' < 66 → u < 11 → ((g', (j, [])), (0, [(u, 1)])) ∈ (kk_w_n_yard.2.2.2.2.2.2.getD 1 (none, ([], [], ([], []), 0))).2.1 → (g < ly_E.2.1.length ∨ 100 ≤ g) ∧ sx_rd ((fun g => pl (ly_sg g)), M', v, nt_ghost) M' g (sx_e v (j, [])) = sx_e v (0, [(u, 1)]) := by
          intro g g' j u hg e hg' hu hm
          refine ⟨Or.inl hg, ?_⟩
          have := (h3.2.2.1 _ hm).2
          dsimp only at this
          rw [sx_c_e, sx_s_e, hr' u hu] at this
          rw [sx_c_e, sx_s_e, ← this]
          unfold sx_rd
          dsimp only
          rw [if_neg (show ¬ 100 ≤ g by omega), if_neg (show ¬ 100 ≤ g' by omega), e]
        rcases List.mem_cons.mp hq with rfl | hq
        · exact key _ 4 _ _ (by decide) rfl (by decide) (by decide) (List.mem_of_getElem? (i := 0) rfl)
        rcases List.mem_cons.mp hq with rfl | hq
        · exact key _ 48 _ _ (by decide) rfl (by decide) (by decide) (List.mem_of_getElem? (i := 1) rfl)
        rcases List.mem_cons.mp hq with rfl | hq
        · exact key _ 16 _ _ (by decide) rfl (by decide) (by decide) (List.mem_of_getElem? (i := 2) rfl)
        rcases List.mem_cons.mp hq with rfl | hq
        · exact key _ 15 _ _ (by decide) rfl (by decide) (by decide) (List.mem_of_getElem? (i := 3) rfl)
        rcases List.mem_cons.mp hq with rfl | hq
        · exact key _ 15 _ _ (by decide) rfl (by decide) (by decide) (List.mem_of_getElem? (i := 4) rfl)
        rcases List.mem_cons.mp hq with rfl | hq
        · exact key _ 15 _ _ (by decide) rfl (by decide) (by decide) (List.mem_of_getElem? (i := 5) rfl)
        rcases List.mem_cons.mp hq with rfl | hq
        · exact key _ 15 _ _ (by decide) rfl (by decide) (by decide) (List.mem_of_getElem? (i := 6) rfl)
        rcases List.mem_cons.mp hq with rfl | hq
        · exact key _ 14 _ _ (by decide) rfl (by decide) (by decide) (List.mem_of_getElem? (i := 7) rfl)
        rcases List.mem_cons.mp hq with rfl | hq
        · exact key _ 14 _ _ (by decide) rfl (by decide) (by decide) (List.mem_of_getElem? (i := 8) rfl)
        rcases List.mem_cons.mp hq with rfl | hq
        · exact key _ 14 _ _ (by decide) rfl (by decide) (by decide) (List.mem_of_getElem? (i := 9) rfl)
        rcases List.mem_cons.mp hq with rfl | hq
        · exact key _ 14 _ _ (by decide) rfl (by decide) (by decide) (List.mem_of_getElem? (i := 10) rfl)
        · rw [List.mem_singleton.mp hq]
          refine ⟨Or.inr (by decide), ?_⟩
          have := (h3.2.2.1 _ (List.mem_of_getElem? (i := 11) rfl)).2
          dsimp only at this ⊢
          rw [sx_c_e, sx_c_e] at this ⊢
          rw [← this]
          unfold sx_rd
          rw [if_pos (by decide), if_pos (by decide)]
          refine ly_gh (E := ly_E) (F := (pl, M', v, nt_ghost)) rfl rfl 0 _ _ _ ?_
          intro g hh j hj
          rcases List.mem_cons.mp hh with rfl | hh
          · rfl
          rcases List.mem_cons.mp hh with rfl | hh
          · rfl
          · rw [List.mem_singleton.mp hh]
            rfl
      · obtain ⟨p2, hp2, l⟩ := List.any_eq_true.mp (List.all_eq_true.mp ly_sg_R q hq)
        rw [Bool.and_eq_true, Bool.and_eq_true] at l
        have l1 := Nat.eq_of_beq_eq_true l.1
        have l2 := sx_leq_ok l.2.1
        have l3 := Nat.eq_of_beq_eq_true l.2.2
        have lr := List.all_eq_true.mp (show ly_R.all (fun q => sx_lw 0 q.1.2 && (Nat.blt q.1.1 66 && (Nat.blt 0 q.2 && Nat.ble q.2 66))) = true from by decide +kernel) q hq
        rw [Bool.and_eq_true, Bool.and_eq_true, Bool.and_eq_true] at lr
        obtain ⟨m1, m2, m3, m4⟩ := lr
        have m2 := Nat.blt_eq.mp m2
        have m3 := Nat.blt_eq.mp m3
        have m4 := Nat.le_of_ble_eq_true m4
        obtain ⟨k1, k2, k3⟩ := h3.2.2.2.1 p2 hp2
        have e : sx_e v q.1.2 = sx_e r' q.1.2 := sx_e_up (n := 0) (fun s hs => by omega) m1
        rw [l2, ← e] at k2 k3
        refine ⟨⟨m2, m4⟩, k2, ?_⟩
        rw [l1] at k3
        rw [k3, l3]
        unfold sx_rq
        rw [if_neg (by omega), if_neg (by omega)]
        rfl
theorem ly_S_sg {pl : Nat → Nat} {mk xi : Nat → Int} {rc : Int} {M : nt_M} (h : ly_S pl mk xi rc M) : ly_S (fun g => pl (ly_sg g)) mk xi rc M := by
  obtain ⟨⟨p1, p2, p3, p4⟩, p5, p6⟩ := h
  exact ⟨⟨fun g hg => p1 _ (ly_sg_lt hg), p2, p3, p4⟩, p5, p6⟩
/-- calls by a rule that is there -/
theorem ly_genR {X : nt_X} {K : sx_K} {pl : Nat → Nat} {v r mk xi : Nat → Int} {M : nt_M} {d g dl n : Nat} {mo : List (Nat × Int × Int)} {rm : List (Nat × Nat)} {args : List sx_V} {bd : sx_B} {cs : List sx_L} {vs : List Value} (hK : sx_KOK X (sx_tbs, sx_gps) K) (hKe : K = (g, dl, ly_D ++ [(4, 0, 0, 0), (13, 0, 400, 0)], (mo, rm), args, (ly_C ++ [], ly_R ++ [((23, (0, [(11, 1)])), 67), ((66, (0, [])), 68)], (bd, cs), n), [(some (0, 0, (0, [(n, 1)])), (ly_C, ly_R ++ [((23, (0, [(11, 1)])), 67), ((66, (0, [])), 68)], ([(n, -2147483648, 2147483647)], []), n + 1))])) (hn : 11 ≤ n) (hmo : mo.all (lq_b 66) = true) (hrm : rm.all (fun q => Nat.blt q.1 66 && (!Nat.beq q.1 23 && !Nat.beq q.1 65)) = true) (hd : dl ≤ d) (hB : ly_B pl v M) (hS : ly_S pl mk xi (v 2) M) (hr : ∀ s, s < 11 → r s = v s) (h0 : 0 ≤ r 11) (h1 : r 11 < v 2) (hargs : ∀ b, sx_os (ly_pl pl b) r args vs) (hob : sx_ob r bd) (hoc : sx_oc r cs) : ∃ (x : Int32) (M' : nt_M), nt_ev X d g vs M (some (.int x), M') ∧ ly_B pl v M' ∧ ly_fs pl M M' := by
  obtain ⟨⟨p1, p2, p3, p4⟩, p5, T, p7, p8⟩ := hS
  obtain ⟨b, c1, c2, c3, c4, c5, c6, c7⟩ := p8 (r 11).toNat (by omega)
  have hij : sx_ij (sx_KE (sx_tbs, sx_gps) K) (ly_pl pl b) := ly_pij p1 c2 hB.1
  have hlen : (sx_KE (sx_tbs, sx_gps) K).2.1.length = 68 := by rw [hKe]; rfl
  have hon := ly_app hKe hB (fun h hh => ly_pl1 hh) hr hij (fun h q hq => by
    rw [ly_pl2 (by omega), show 66 + h - 66 = h from by omega]
    exact c6 h q hq) (fun q hq => by cases hq) (fun q hq => by
    rcases List.mem_cons.mp hq with rfl | hq
    · refine ⟨⟨by rw [hlen]; decide, by rw [hlen]; decide⟩, ?_, ?_⟩
      · dsimp only
        rw [sx_s_e]
        exact h0
      · dsimp only
        rw [sx_s_e, ly_pl1 (by decide), c1]
        rfl
    · rw [List.mem_singleton.mp hq]
      refine ⟨⟨by rw [hlen]; decide, by rw [hlen]; decide⟩, by dsimp only; rw [sx_c_e]; decide, ?_⟩
      dsimp only
      rw [sx_c_e]
      exact c7) hob hoc
  subst hKe
  obtain ⟨o, k1, p, hp, r', k2, k3⟩ := ly_run hK hd (hargs b) hon
  rw [List.mem_singleton.mp hp] at k2 k3
  obtain ⟨ov, M'⟩ := o
  cases ov with
  | none => exact k2.elim
  | some w =>
    obtain ⟨x, rfl, hx⟩ := k2
    have hr' : ∀ s, s < 11 → r' s = v s := fun s hs => (k3.2.2.2.2.2.1 s (Nat.lt_of_lt_of_le hs hn)).trans (hr s hs)
    have fr := ly_fsm (by show 66 ≤ 68; omega) hij hmo hrm k3.2.2.2.2.2.2
    have fr : ly_fs pl M M' := by
      obtain ⟨⟨f1, f2, f3⟩, f4⟩ := fr
      exact ⟨⟨f1, fun a ha => f2 a (fun g hg => by rw [ly_pl1 hg]; exact ha g hg), fun g j hg => by
        have := f3 g j hg
        rw [ly_pl1 (by omega)] at this
        exact this⟩, lq_Tpl f4⟩
    exact ⟨x, M', k1, ly_bk (ed := [(4, 0, 0, 0), (13, 0, 400, 0)]) rfl rfl (fun h hh => ly_pl1 hh) k3 (ly_oiC (more := []) (fun h hh => ly_pl1 hh) rfl k3.2.2.1 hr') (ly_or2 (fun h hh => ly_pl1 hh) k3.2.2.2.1), fr⟩
