section
/-! the law's world: all regions, and what lies beyond them -/
def ly_E : sx_E := ((sx_tbs, sx_gps), ly_D, [], [], 11)
def ly_B (pl : Nat → Nat) (v : Nat → Int) (M : nt_M) : Prop := sx_ij ly_E pl ∧ sx_hp ly_E pl M ∧ sx_oi ly_E (pl, M, v, nt_ghost) v ly_C M ∧ sx_or ly_E pl v ly_R M
theorem ly_rd {F F' : sx_F} {M : nt_M} {g : Nat} {i : Int} (hp : F.1 = F'.1) (hg : F.2.2.2 = F'.2.2.2) : sx_rd F M g i = sx_rd F' M g i := by
  unfold sx_rd
  rw [hp, hg]
theorem ly_oi {E E' : sx_E} {F F' : sx_F} {r v : Nat → Int} {ic : sx_I} {M : nt_M} {n : Nat} (hE : E.2.1.length ≤ E'.2.1.length) (hp : F.1 = F'.1) (hg : F.2.2.2 = F'.2.2.2) (hr : ∀ s, s < n → v s = r s) (hl : ic.all (fun q => sx_lw n q.1.2 && sx_lw n q.2) = true) (h : sx_oi E F r ic M) : sx_oi E' F' v ic M := by
  intro q hq
  have l := List.all_eq_true.mp hl q hq
  rw [Bool.and_eq_true] at l
  obtain ⟨h1, h2⟩ := h q hq
  refine ⟨?_, ?_⟩
  · rcases h1 with h1 | h1
    · exact Or.inl (by omega)
    · exact Or.inr h1
  · rw [sx_e_up hr l.1, sx_e_up hr l.2, ← ly_rd hp hg]
    exact h2
theorem ly_or {E E' : sx_E} {pl : Nat → Nat} {r v : Nat → Int} {rc : sx_R} {M : nt_M} (hE : E.2.1.length ≤ E'.2.1.length) (hl : rc.all (fun q => sx_lw 0 q.1.2) = true) (h : sx_or E pl r rc M) : sx_or E' pl v rc M := by
  intro q hq
  have l := List.all_eq_true.mp hl q hq
  obtain ⟨⟨h1, h1'⟩, h2, h3⟩ := h q hq
  have e : sx_e v q.1.2 = sx_e r q.1.2 := sx_e_up (n := 0) (fun s hs => by omega) l
  rw [e]
  exact ⟨⟨by omega, by omega⟩, h2, h3⟩
/-- a known int is one that the memory has -/
theorem ly_cell {pl : Nat → Nat} {v : Nat → Int} {M : nt_M} {g j u : Nat} (hB : ly_B pl v M) (hg : g < 100) (hm : ((g, ((j : Int), [])), (0, [(u, 1)])) ∈ ly_C) : (nt_I M (pl g) j).toInt = v u := by
  have h := (hB.2.2.1 _ hm).2
  dsimp only at h
  rw [sx_c_e, sx_s_e] at h
  unfold sx_rd at h
  rw [if_neg (by omega), if_neg (by omega)] at h
  exact h
theorem ly_ob {pl : Nat → Nat} {v : Nat → Int} {M : nt_M} (hB : ly_B pl v M) : sx_ob v ly_b := by
  have key : ∀ (g j u : Nat), g < 100 → ((g, ((j : Int), [])), (0, [(u, 1)])) ∈ ly_C → -2147483648 ≤ v u ∧ v u ≤ 2147483647 := by
    intro g j u hg hm
    rw [← ly_cell hB hg hm]
    have l1 := (nt_I M (pl g) j).le_toInt
    have l2 := (nt_I M (pl g) j).toInt_lt
    omega
  have k2 : 0 ≤ v 2 ∧ v 2 ≤ 6 := by
    rw [← ly_cell (g := 16) (j := 4) (u := 2) hB (by decide) (List.mem_of_getElem? (i := 2) rfl)]
    exact (hB.2.1.2 16 (10, 0, 0, 8) rfl).2.2.2.2 4
  intro q hq
  rcases List.mem_cons.mp hq with rfl | hq
  · exact key 4 9 0 (by decide) (List.mem_of_getElem? (i := 0) rfl)
  rcases List.mem_cons.mp hq with rfl | hq
  · exact key 31 6 1 (by decide) (List.mem_of_getElem? (i := 1) rfl)
  rcases List.mem_cons.mp hq with rfl | hq
  · exact k2
  rcases List.mem_cons.mp hq with rfl | hq
  · exact key 15 0 3 (by decide) (List.mem_of_getElem? (i := 3) rfl)
  rcases List.mem_cons.mp hq with rfl | hq
  · exact key 15 1 4 (by decide) (List.mem_of_getElem? (i := 4) rfl)
  rcases List.mem_cons.mp hq with rfl | hq
  · exact key 15 2 5 (by decide) (List.mem_of_getElem? (i := 5) rfl)
  rcases List.mem_cons.mp hq with rfl | hq
  · exact key 15 3 6 (by decide) (List.mem_of_getElem? (i := 6) rfl)
  rcases List.mem_cons.mp hq with rfl | hq
  · exact key 14 9 7 (by decide) (List.mem_of_getElem? (i := 7) rfl)
  rcases List.mem_cons.mp hq with rfl | hq
  · exact key 14 221 8 (by decide) (List.mem_of_getElem? (i := 8) rfl)
  rcases List.mem_cons.mp hq with rfl | hq
  · exact key 14 433 9 (by decide) (List.mem_of_getElem? (i := 9) rfl)
  rcases List.mem_cons.mp hq with rfl | hq
  · exact key 14 645 10 (by decide) (List.mem_of_getElem? (i := 10) rfl)
  · cases hq
theorem ly_gh {E : sx_E} {F : sx_F} (hE : E.1.2 = sx_gps) (hF : F.2.2.2 = nt_ghost) : sx_gh E F := nt_ghost_gh hE hF
/-- what holds ahead of a call -/
theorem ly_app {K : sx_K} {pl pl' : Nat → Nat} {v r : Nat → Int} {M : nt_M} {g dl n : Nat} {ed : sx_D} {mo : List (Nat × Int × Int)} {rm : List (Nat × Nat)} {args : List sx_V} {ec : sx_I} {er : sx_R} {bd : sx_B} {cs : List sx_L} {ps : List (Option sx_V × sx_N)} (hK : K = (g, dl, ly_D ++ ed, (mo, rm), args, (ly_C ++ ec, ly_R ++ er, (bd, cs), n), ps)) (hB : ly_B pl v M) (hpl : ∀ h, h < 66 → pl' h = pl h) (hr : ∀ s, s < 11 → r s = v s) (hij : sx_ij (sx_KE (sx_tbs, sx_gps) K) pl') (hhp : ∀ h q, ed[h]? = some q → pl' (66 + h) < nt_n M ∧ nt_k M (pl' (66 + h)) = q.1 ∧ (q.2.1 ≤ (nt_l M (pl' (66 + h)) : Int) ∧ (nt_l M (pl' (66 + h)) : Int) ≤ q.2.2.1) ∧ nt_l M (pl' (66 + h)) < 2147483648 ∧ ∀ j, (sx_iv (sx_tbs.getD q.2.2.2 []) j).1 ≤ (nt_I M (pl' (66 + h)) j).toInt ∧ (nt_I M (pl' (66 + h)) j).toInt ≤ (sx_iv (sx_tbs.getD q.2.2.2 []) j).2) (hec : sx_oi (sx_KE (sx_tbs, sx_gps) K) (pl', M, r, nt_ghost) r ec M) (her : sx_or (sx_KE (sx_tbs, sx_gps) K) pl' r er M) (hob : sx_ob r bd) (hoc : sx_oc r cs) : sx_on (sx_KE (sx_tbs, sx_gps) K) (pl', M, r, nt_ghost) r K.2.2.2.2.2.1 M := by
  subst hK
  obtain ⟨b1, b2, b3, b4⟩ := hB
  have hlen : ly_D.length = 66 := rfl
  refine ⟨⟨ly_gh rfl rfl, hij⟩, ⟨b2.1, fun h q hq => ?_⟩, fun q hq => ?_, fun q hq => ?_, ⟨hob, hoc⟩, fun s hs => rfl, sx_fm_rf⟩
  · have hq : (ly_D ++ ed)[h]? = some q := hq
    by_cases c : h < 66
    · rw [List.getElem?_append_left (by rw [hlen]; exact c)] at hq
      have := b2.2 h q hq
      dsimp only
      rw [hpl h c]
      exact this
    · rw [List.getElem?_append_right (by rw [hlen]; omega), hlen] at hq
      have := hhp (h - 66) q hq
      rw [show 66 + (h - 66) = h from by omega] at this
      exact this
  · rcases List.mem_append.mp hq with h | h
    · have l : sx_lw 11 q.1.2 = true ∧ sx_lw 11 q.2 = true := by
        have := List.all_eq_true.mp (show ly_C.all (fun q => sx_lw 11 q.1.2 && sx_lw 11 q.2) = true from by decide +kernel) q h
        rw [Bool.and_eq_true] at this
        exact this
      have lg : q.1.1 < 66 ∨ 100 ≤ q.1.1 := (b3 q h).1
      have hv := (b3 q h).2
      refine ⟨?_, ?_⟩
      · rcases lg with lg | lg
        · refine Or.inl ?_
          show q.1.1 < (ly_D ++ ed).length
          rw [List.length_append, hlen]
          omega
        · exact Or.inr lg
      · rw [sx_e_up hr l.1, sx_e_up hr l.2, ← hv]
        have hq2 := List.all_eq_true.mp (show ly_C.all (fun q => Nat.blt q.1.1 66 || sx_leq q.1.2 (10000, []) && Nat.beq q.1.1 100) = true from by decide +kernel) q h
        rw [Bool.or_eq_true, Bool.and_eq_true] at hq2
        rcases hq2 with c | ⟨c1, c2⟩
        · have c := Nat.blt_eq.mp c
          unfold sx_rd
          dsimp only
          rw [if_neg (show ¬ 100 ≤ q.1.1 by omega), if_neg (show ¬ 100 ≤ q.1.1 by omega), hpl _ c]
        · rw [Nat.eq_of_beq_eq_true c2]
          unfold sx_rd
          rw [if_pos (by decide), if_pos (by decide)]
          show nt_ghost 0 (fun h j => nt_I M (pl' h) j) _ = nt_ghost 0 (fun h j => nt_I M (pl h) j) _
          refine ly_gh (E := ly_E) (F := (pl, M, v, nt_ghost)) rfl rfl 0 _ _ _ ?_
          intro h hh j hj
          have : h = 1 ∨ h = 2 ∨ h = 3 := by
            rcases List.mem_cons.mp hh with e | hh
            · exact Or.inl e
            rcases List.mem_cons.mp hh with e | hh
            · exact Or.inr (Or.inl e)
            · exact Or.inr (Or.inr (List.mem_singleton.mp hh))
          rw [hpl h (by omega)]
    · exact hec q h
  · rcases List.mem_append.mp hq with h | h
    · have l := List.all_eq_true.mp (show ly_R.all (fun q => sx_lw 0 q.1.2 && (Nat.blt q.1.1 66 && (Nat.blt 0 q.2 && Nat.ble q.2 66))) = true from by decide +kernel) q h
      rw [Bool.and_eq_true, Bool.and_eq_true, Bool.and_eq_true] at l
      obtain ⟨l1, l2, l3, l4⟩ := l
      have l2 := Nat.blt_eq.mp l2
      have l3 := Nat.blt_eq.mp l3
      have l4 := Nat.le_of_ble_eq_true l4
      obtain ⟨h1, h2, h3⟩ := b4 q h
      have e : sx_e r q.1.2 = sx_e v q.1.2 := sx_e_up (n := 0) (fun s hs => by omega) l1
      rw [e]
      refine ⟨⟨?_, ?_⟩, h2, ?_⟩
      · show q.1.1 < (ly_D ++ ed).length
        rw [List.length_append, hlen]
        omega
      · show q.2 ≤ (ly_D ++ ed).length
        rw [List.length_append, hlen]
        omega
      · dsimp only
        rw [hpl _ l2, h3]
        unfold sx_rq
        rw [if_neg (by omega), if_neg (by omega), hpl _ (by omega)]
    · exact her q h
/-- what a call may have changed beyond what is known -/
def ly_fr (n : Nat) (pl : Nat → Nat) (M M' : nt_M) : Prop := (nt_n M' = nt_n M ∧ nt_z M' = nt_z M ∧ nt_k M' = nt_k M ∧ nt_l M' = nt_l M) ∧ (∀ a, (∀ g, g < n → a ≠ pl g) → (∀ j, nt_I M' a j = nt_I M a j) ∧ ∀ j, nt_R M' a j = nt_R M a j) ∧ ∀ g j, (g = 23 ∨ g = 65) → nt_R M' (pl g) j = nt_R M (pl g) j
/-- cells of the tapes, the counts of rules -/
def lq_c (g j : Nat) : Prop := g = 17 ∨ g = 18 ∨ g = 8 ∨ (g = 16 ∧ j = 4) ∨ (g = 0 ∧ (j = 1 ∨ j = 2))
def lq_o (q : Nat × Int × Int) : Bool := !Nat.beq q.1 17 && (!Nat.beq q.1 18 && (!Nat.beq q.1 8 && (!(Nat.beq q.1 16 && (decide (q.2.1 ≤ 4) && decide (4 ≤ q.2.2))) && !(Nat.beq q.1 0 && (decide (q.2.1 ≤ 2) && decide (1 ≤ q.2.2))))))
def lq_b (n : Nat) (q : Nat × Int × Int) : Bool := Nat.blt q.1 n && lq_o q
def lq_T (pl : Nat → Nat) (M M' : nt_M) : Prop := ∀ g j, lq_c g j → nt_I M' (pl g) j = nt_I M (pl g) j
def ly_fs (pl : Nat → Nat) (M M' : nt_M) : Prop := ly_fr 66 pl M M' ∧ lq_T pl M M'
theorem lq_c66 {g j : Nat} (h : lq_c g j) : g < 66 := by
  rcases h with h | h | h | h | h <;> omega
theorem lq_oc {q : Nat × Int × Int} {j : Nat} (h : lq_o q = true) (hc : lq_c q.1 j) (h1 : q.2.1 ≤ (j : Int)) (h2 : (j : Int) ≤ q.2.2) : False := by
  unfold lq_o at h
  rw [Bool.and_eq_true, Bool.and_eq_true, Bool.and_eq_true, Bool.and_eq_true, Bool.not_eq_true', Bool.not_eq_true', Bool.not_eq_true', Bool.not_eq_true', Bool.not_eq_true'] at h
  obtain ⟨a, b, c, d, e⟩ := h
  rcases hc with hc | hc | hc | ⟨hc, hj⟩ | ⟨hc, hj⟩
  · rw [hc] at a; exact absurd a (by decide)
  · rw [hc] at b; exact absurd b (by decide)
  · rw [hc] at c; exact absurd c (by decide)
  · rw [hc, decide_eq_true (by omega), decide_eq_true (by omega)] at d
    exact absurd d (by decide)
  · rw [hc, decide_eq_true (by omega), decide_eq_true (by omega)] at e
    exact absurd e (by decide)
theorem lq_b1 {n : Nat} {l : List (Nat × Int × Int)} (h : l.all (lq_b n) = true) : l.all (fun q => Nat.blt q.1 n) = true := by
  refine List.all_eq_true.mpr (fun q hq => ?_)
  have := List.all_eq_true.mp h q hq
  unfold lq_b at this
  rw [Bool.and_eq_true] at this
  exact this.1
theorem lq_Tm {K : sx_K} {pl : Nat → Nat} {M M' : nt_M} {n : Nat} (hn : 66 ≤ K.2.2.1.length) (hij : sx_ij (sx_KE (sx_tbs, sx_gps) K) pl) (hmo : K.2.2.2.1.1.all (lq_b n) = true) (h : sx_fm (sx_KE (sx_tbs, sx_gps) K) pl M M') : lq_T pl M M' := by
  intro g j hc
  refine h.2.1 _ j fun q hq hl hz => ?_
  have hg := lq_c66 hc
  have e := hij g q.1 (by show g < K.2.2.1.length; omega) hl hz.1
  have l := List.all_eq_true.mp hmo q hq
  unfold lq_b at l
  rw [Bool.and_eq_true] at l
  exact lq_oc l.2 (e ▸ hc) hz.2.1 hz.2.2
theorem ly_frm {K : sx_K} {pl : Nat → Nat} {M M' : nt_M} {n : Nat} (hn : n ≤ K.2.2.1.length) (hn2 : 66 ≤ n) (hij : sx_ij (sx_KE (sx_tbs, sx_gps) K) pl) (hmo : K.2.2.2.1.1.all (fun q => Nat.blt q.1 n) = true) (hrm : K.2.2.2.1.2.all (fun q => Nat.blt q.1 n && (!Nat.beq q.1 23 && !Nat.beq q.1 65)) = true) (h : sx_fm (sx_KE (sx_tbs, sx_gps) K) pl M M') : ly_fr n pl M M' := by
  obtain ⟨h1, h2, h3, h4⟩ := h
  refine ⟨h1, fun a ha => ⟨fun j => h2 a j fun q hq hl hz => ?_, fun j => h3 a j fun q hq hl hz => ?_⟩, fun g j hg => h3 _ j fun q hq hl hz => ?_⟩
  · exact ha q.1 (Nat.blt_eq.mp (List.all_eq_true.mp hmo q hq)) hz.1
  · have l := List.all_eq_true.mp hrm q hq
    rw [Bool.and_eq_true] at l
    exact ha q.1 (Nat.blt_eq.mp l.1) hz.1
  · have e := hij g q.1 (by show g < K.2.2.1.length; omega) hl hz.1
    have l := List.all_eq_true.mp hrm q hq
    rw [Bool.and_eq_true, Bool.and_eq_true, Bool.not_eq_true', Bool.not_eq_true'] at l
    rcases hg with c | c
    · rw [c] at e
      rw [← e] at l
      exact absurd l.2.1 (by decide)
    · rw [c] at e
      rw [← e] at l
      exact absurd l.2.2 (by decide)
theorem ly_fsm {K : sx_K} {pl : Nat → Nat} {M M' : nt_M} (hn : 66 ≤ K.2.2.1.length) (hij : sx_ij (sx_KE (sx_tbs, sx_gps) K) pl) (hmo : K.2.2.2.1.1.all (lq_b 66) = true) (hrm : K.2.2.2.1.2.all (fun q => Nat.blt q.1 66 && (!Nat.beq q.1 23 && !Nat.beq q.1 65)) = true) (h : sx_fm (sx_KE (sx_tbs, sx_gps) K) pl M M') : ly_fs pl M M' := ⟨ly_frm hn (Nat.le_refl _) hij (lq_b1 hmo) hrm h, lq_Tm hn hij hmo h⟩
/-- what holds behind a call, of the regions that are always there -/
theorem ly_bk {K : sx_K} {F : sx_F} {pl : Nat → Nat} {v' r' : Nat → Int} {M' : nt_M} {ed : sx_D} {ic : sx_I} {rc : sx_R} {bc : sx_B × List sx_L} {nx : Nat} (hD : K.2.2.1 = ly_D ++ ed) (hF : F.2.2.2 = nt_ghost) (hpl : ∀ h, h < 66 → F.1 h = pl h) (h : sx_on (sx_KE (sx_tbs, sx_gps) K) F r' (ic, rc, bc, nx) M') (hc : sx_oi ly_E (pl, M', v', nt_ghost) v' ly_C M') (hrr : sx_or ly_E pl v' ly_R M') : ly_B pl v' M' := by
  have hlen : ly_D.length = 66 := rfl
  refine ⟨fun a b ha hb e => ?_, ⟨h.2.1.1, fun g q hq => ?_⟩, hc, hrr⟩
  · have ha : a < 66 := ha
    have hb : b < 66 := hb
    have hl : 66 ≤ (sx_KE (sx_tbs, sx_gps) K).2.1.length := by
      show 66 ≤ K.2.2.1.length
      rw [hD, List.length_append, hlen]
      omega
    exact h.1.2 a b (by omega) (by omega) (by rw [hpl a ha, hpl b hb]; exact e)
  · have hq0 : ly_D[g]? = some q := hq
    have hg : g < 66 := by
      have := (List.getElem?_eq_some_iff.mp hq0).1
      rw [hlen] at this
      exact this
    have := h.2.1.2 g q (by
      show K.2.2.1[g]? = some q
      rw [hD, List.getElem?_append_left (by rw [hlen]; exact hg)]
      exact hq0)
    rw [hpl g hg] at this
    exact this
/-- THE CALLS that change nothing of what is known -/
theorem ly_genW {X : nt_X} {K : sx_K} {pl : Nat → Nat} {v r : Nat → Int} {M : nt_M} {d g dl n : Nat} {mo : List (Nat × Int × Int)} {rm : List (Nat × Nat)} {args : List sx_V} {ec : sx_I} {bd : sx_B} {cs : List sx_L} {vs : List Value} (hK : sx_KOK X (sx_tbs, sx_gps) K) (hKe : K = (g, dl, ly_D ++ [], (mo, rm), args, (ly_C ++ ec, ly_R ++ [], (bd, cs), n), [(some (0, 0, (0, [(n, 1)])), (ly_C, ly_R, ([(n, -2147483648, 2147483647)], []), n + 1))])) (hn : 11 ≤ n) (hmo : mo.all (fun q => Nat.blt q.1 66) = true) (hrm : rm.all (fun q => Nat.blt q.1 66 && (!Nat.beq q.1 23 && !Nat.beq q.1 65)) = true) (hd : dl ≤ d) (hB : ly_B pl v M) (hr : ∀ s, s < 11 → r s = v s) (hargs : sx_os pl r args vs) (hec : sx_oi (sx_KE (sx_tbs, sx_gps) K) (pl, M, r, nt_ghost) r ec M) (hob : sx_ob r bd) (hoc : sx_oc r cs) : ∃ (x : Int32) (M' : nt_M), nt_ev X d g vs M (some (.int x), M') ∧ ly_B pl v M' ∧ ly_fr 66 pl M M' := by
  have hij : sx_ij (sx_KE (sx_tbs, sx_gps) K) pl := by
    intro a b ha hb e
    rw [hKe] at ha hb
    have ha : a < (ly_D ++ []).length := ha
    have hb : b < (ly_D ++ []).length := hb
    rw [List.append_nil] at ha hb
    exact hB.1 a b ha hb e
  have hon := ly_app hKe hB (fun _ _ => rfl) hr hij (fun h q hq => by rw [List.getElem?_nil] at hq; cases hq) hec (fun q hq => by cases hq) hob hoc
  have hK0 := hKe
  subst hKe
  obtain ⟨o, h1, p, hp, r', h2, h3⟩ := hK (pl, M, r, nt_ghost) r vs M d hd rfl rfl rfl hargs hon
  rw [List.mem_singleton.mp hp] at h2 h3
  obtain ⟨ov, M'⟩ := o
  cases ov with
  | none => exact h2.elim
  | some w =>
    obtain ⟨x, rfl, hx⟩ := h2
    have hr' : ∀ s, s < 11 → v s = r' s := fun s hs => ((h3.2.2.2.2.2.1 s (Nat.lt_of_lt_of_le hs hn)).trans (hr s hs)).symm
    refine ⟨x, M', h1, ly_bk (ed := []) rfl rfl (fun _ _ => rfl) h3 (ly_oi (n := 11) (Nat.le_of_eq rfl) rfl rfl hr' (by decide +kernel) h3.2.2.1) (ly_or (Nat.le_of_eq rfl) (by decide +kernel) h3.2.2.2.1), ly_frm (n := 66) (Nat.le_of_eq rfl) (Nat.le_refl _) hij hmo hrm h3.2.2.2.2.2.2⟩
/-- THE CALLS that change nothing of what is known -/
theorem ly_gen {X : nt_X} {K : sx_K} {pl : Nat → Nat} {v r : Nat → Int} {M : nt_M} {d g dl n : Nat} {mo : List (Nat × Int × Int)} {rm : List (Nat × Nat)} {args : List sx_V} {ec : sx_I} {bd : sx_B} {cs : List sx_L} {vs : List Value} (hK : sx_KOK X (sx_tbs, sx_gps) K) (hKe : K = (g, dl, ly_D ++ [], (mo, rm), args, (ly_C ++ ec, ly_R ++ [], (bd, cs), n), [(some (0, 0, (0, [(n, 1)])), (ly_C, ly_R, ([(n, -2147483648, 2147483647)], []), n + 1))])) (hn : 11 ≤ n) (hmo : mo.all (lq_b 66) = true) (hrm : rm.all (fun q => Nat.blt q.1 66 && (!Nat.beq q.1 23 && !Nat.beq q.1 65)) = true) (hd : dl ≤ d) (hB : ly_B pl v M) (hr : ∀ s, s < 11 → r s = v s) (hargs : sx_os pl r args vs) (hec : sx_oi (sx_KE (sx_tbs, sx_gps) K) (pl, M, r, nt_ghost) r ec M) (hob : sx_ob r bd) (hoc : sx_oc r cs) : ∃ (x : Int32) (M' : nt_M), nt_ev X d g vs M (some (.int x), M') ∧ ly_B pl v M' ∧ ly_fs pl M M' := by
  have hij : sx_ij (sx_KE (sx_tbs, sx_gps) K) pl := by
    intro a b ha hb e
    rw [hKe] at ha hb
    have ha : a < (ly_D ++ []).length := ha
    have hb : b < (ly_D ++ []).length := hb
    rw [List.append_nil] at ha hb
    exact hB.1 a b ha hb e
  have hon := ly_app hKe hB (fun _ _ => rfl) hr hij (fun h q hq => by rw [List.getElem?_nil] at hq; cases hq) hec (fun q hq => by cases hq) hob hoc
  have hK0 := hKe
  subst hKe
  obtain ⟨o, h1, p, hp, r', h2, h3⟩ := hK (pl, M, r, nt_ghost) r vs M d hd rfl rfl rfl hargs hon
  rw [List.mem_singleton.mp hp] at h2 h3
  obtain ⟨ov, M'⟩ := o
  cases ov with
  | none => exact h2.elim
  | some w =>
    obtain ⟨x, rfl, hx⟩ := h2
    have hr' : ∀ s, s < 11 → v s = r' s := fun s hs => ((h3.2.2.2.2.2.1 s (Nat.lt_of_lt_of_le hs hn)).trans (hr s hs)).symm
    refine ⟨x, M', h1, ly_bk (ed := []) rfl rfl (fun _ _ => rfl) h3 (ly_oi (n := 11) (Nat.le_of_eq rfl) rfl rfl hr' (by decide +kernel) h3.2.2.1) (ly_or (Nat.le_of_eq rfl) (by decide +kernel) h3.2.2.2.1), ly_fsm (Nat.le_of_eq rfl) hij hmo hrm h3.2.2.2.2.2.2⟩
end
section
/-! images and rules: blocks behind the regions -/
def ly_ED : sx_D := [(6, 0, 0, 15), (8, 0, 0, 1), (13, 24, 24, 0), (13, 24, 24, 2), (13, 24, 24, 0), (13, 24, 24, 0), (13, 8, 8, 3), (13, 8, 8, 0), (13, 8, 8, 0), (13, 8, 8, 0), (13, 6, 6, 0), (13, 6, 6, 0), (13, 6, 6, 0), (13, 24, 24, 0), (13, 24, 24, 0), (15, 24, 24, 0), (13, 8, 8, 0)]
def ly_RI : sx_R := [((66, (0, [])), 68), ((67, (5, [])), 69), ((67, (6, [])), 70), ((67, (7, [])), 71), ((67, (8, [])), 72), ((67, (9, [])), 73), ((67, (10, [])), 74), ((67, (11, [])), 75), ((67, (12, [])), 76), ((66, (7, [])), 77), ((66, (8, [])), 78), ((66, (9, [])), 79), ((66, (10, [])), 80), ((66, (11, [])), 81), ((66, (12, [])), 82), ((66, (13, [])), 83)]
def ly_hp (ed : sx_D) (a : Nat) (M : nt_M) : Prop := ∀ h q, ed[h]? = some q → a + h < nt_n M ∧ nt_k M (a + h) = q.1 ∧ (q.2.1 ≤ (nt_l M (a + h) : Int) ∧ (nt_l M (a + h) : Int) ≤ q.2.2.1) ∧ nt_l M (a + h) < 2147483648 ∧ ∀ j, (sx_iv (sx_tbs.getD q.2.2.2 []) j).1 ≤ (nt_I M (a + h) j).toInt ∧ (nt_I M (a + h) j).toInt ≤ (sx_iv (sx_tbs.getD q.2.2.2 []) j).2
/-- an image: a state's block at a, with that x -/
def ly_im (a : Nat) (x : Int) (M : nt_M) : Prop := ly_hp ly_ED a M ∧ (∀ q ∈ ly_RI, nt_R M (a + (q.1.1 - 66)) q.1.2.1.toNat = some (a + (q.2 - 67))) ∧ (nt_I M a 6).toInt = x
/-- a rule: a block of two at b -/
def ly_ru (b : Nat) (M : nt_M) : Prop := ly_hp [(4, 0, 0, 0), (13, 0, 400, 0)] b M ∧ nt_R M b 0 = some (b + 1)
def ly_S (pl : Nat → Nat) (mk xi : Nat → Int) (rc : Int) (M : nt_M) : Prop := ((∀ g, g < 66 → pl g < 66) ∧ pl 16 = 0 ∧ pl 0 = 50 ∧ 66 ≤ nt_n M) ∧ ((nt_n M : Int) ≤ 66 + 17 * (mk 0 + mk 1 + mk 2 + mk 3) + 2 * rc ∧ (nt_z M : Int) ≤ 20000 + 400 * (mk 0 + mk 1 + mk 2 + mk 3) + 500 * rc) ∧ ∃ T : Nat → Nat, (∀ k, k < 4 → (nt_R M (pl 65) k = none ∧ mk k = 0) ∨ ∃ a, nt_R M (pl 65) k = some a ∧ mk k = 1 ∧ 66 ≤ a ∧ a + 17 ≤ nt_n M ∧ (∀ i, i < 17 → T (a + i) = k) ∧ ly_im a (xi k) M) ∧ ∀ u : Nat, (u : Int) < rc → ∃ b, nt_R M (pl 23) u = some b ∧ 66 ≤ b ∧ b + 2 ≤ nt_n M ∧ T b = 4 + u ∧ T (b + 1) = 4 + u ∧ ly_ru b M
theorem ly_hp_fr {ed : sx_D} {a : Nat} {M M' : nt_M} (hn : nt_n M' = nt_n M) (hk : nt_k M' = nt_k M) (hl : nt_l M' = nt_l M) (hI : ∀ h, h < ed.length → ∀ j, nt_I M' (a + h) j = nt_I M (a + h) j) (h : ly_hp ed a M) : ly_hp ed a M' := by
  intro h' q hq
  have hh := (List.getElem?_eq_some_iff.mp hq).1
  have := h h' q hq
  rw [hn, hk, hl]
  refine ⟨this.1, this.2.1, this.2.2.1, this.2.2.2.1, fun j => ?_⟩
  rw [hI h' hh j]
  exact this.2.2.2.2 j
theorem ly_RI_lt : ly_RI.all (fun q => Nat.blt (q.1.1 - 66) 17) = true := by decide +kernel
theorem ly_im_fr {a : Nat} {x : Int} {M M' : nt_M} (hn : nt_n M' = nt_n M) (hk : nt_k M' = nt_k M) (hl : nt_l M' = nt_l M) (hI : ∀ h, h < 17 → ∀ j, nt_I M' (a + h) j = nt_I M (a + h) j) (hR : ∀ h, h < 17 → ∀ j, nt_R M' (a + h) j = nt_R M (a + h) j) (h : ly_im a x M) : ly_im a x M' := by
  obtain ⟨h1, h2, h3⟩ := h
  refine ⟨ly_hp_fr hn hk hl hI h1, fun q hq => ?_, ?_⟩
  · rw [hR _ (Nat.blt_eq.mp (List.all_eq_true.mp ly_RI_lt q hq))]
    exact h2 q hq
  · have := hI 0 (by omega) 6
    rw [Nat.add_zero] at this
    rw [this]
    exact h3
theorem ly_ru_fr {b : Nat} {M M' : nt_M} (hn : nt_n M' = nt_n M) (hk : nt_k M' = nt_k M) (hl : nt_l M' = nt_l M) (hI : ∀ h, h < 2 → ∀ j, nt_I M' (b + h) j = nt_I M (b + h) j) (hR : ∀ j, nt_R M' b j = nt_R M b j) (h : ly_ru b M) : ly_ru b M' := ⟨ly_hp_fr hn hk hl hI h.1, by rw [hR]; exact h.2⟩
/-- a call that changes regions alone -/
theorem ly_S_fr {pl : Nat → Nat} {mk xi : Nat → Int} {rc : Int} {M M' : nt_M} (hf : ly_fr 66 pl M M') (h : ly_S pl mk xi rc M) : ly_S pl mk xi rc M' := by
  obtain ⟨⟨f1, f2, f3, f4⟩, f5, f6⟩ := hf
  obtain ⟨⟨p1, p2, p3, p4⟩, ⟨p5, p6⟩, T, p7, p8⟩ := h
  have out : ∀ a, 66 ≤ a → (∀ j, nt_I M' a j = nt_I M a j) ∧ ∀ j, nt_R M' a j = nt_R M a j := fun a ha => f5 a fun g hg e => by
    have := p1 g hg
    omega
  refine ⟨⟨p1, p2, p3, by rw [f1]; exact p4⟩, ⟨by rw [f1]; exact p5, by rw [f2]; exact p6⟩, T, fun k hk => ?_, fun u hu => ?_⟩
  · rw [f6 65 k (Or.inr rfl), f1]
    rcases p7 k hk with c | ⟨a, c1, c2, c3, c4, c5, c6⟩
    · exact Or.inl c
    · exact Or.inr ⟨a, c1, c2, c3, c4, c5, ly_im_fr f1 f3 f4 (fun h hh => (out (a + h) (by omega)).1) (fun h hh => (out (a + h) (by omega)).2) c6⟩
  · obtain ⟨b, c1, c2, c3, c4, c5, c6⟩ := p8 u hu
    rw [f6 23 u (Or.inl rfl), f1]
    exact ⟨b, c1, c2, c3, c4, c5, ly_ru_fr f1 f3 f4 (fun h hh => (out (b + h) (by omega)).1) (out b c2).2 c6⟩
def ly_pl (pl : Nat → Nat) (a : Nat) (g : Nat) : Nat := if g < 66 then pl g else a + (g - 66)
theorem ly_pl1 {pl : Nat → Nat} {a g : Nat} (h : g < 66) : ly_pl pl a g = pl g := if_pos h
theorem ly_pl2 {pl : Nat → Nat} {a g : Nat} (h : 66 ≤ g) : ly_pl pl a g = a + (g - 66) := if_neg (by omega)
theorem ly_pij {K : sx_K} {pl : Nat → Nat} {a : Nat} (hp : ∀ g, g < 66 → pl g < 66) (ha : 66 ≤ a) (hij : sx_ij ly_E pl) : sx_ij (sx_KE (sx_tbs, sx_gps) K) (ly_pl pl a) := by
  intro g h hg hh e
  by_cases c1 : g < 66
  · have q1 := hp g c1
    by_cases c2 : h < 66
    · rw [ly_pl1 c1, ly_pl1 c2] at e
      exact hij g h c1 c2 e
    · rw [ly_pl1 c1, ly_pl2 (by omega)] at e
      omega
  · by_cases c2 : h < 66
    · have q2 := hp h c2
      rw [ly_pl2 (by omega), ly_pl1 c2] at e
      omega
    · rw [ly_pl2 (by omega), ly_pl2 (by omega)] at e
      omega
/-- cells with other values -/
theorem ly_oi2 {E : sx_E} {F : sx_F} {pl : Nat → Nat} {r' v' : Nat → Int} {M' : nt_M} {c0 c1 c2 c3 c4 c5 c6 c7 c8 c9 c10 : sx_L} {more : sx_I} (hpl : ∀ h, h < 66 → F.1 h = pl h) (hF : F.2.2.2 = nt_ghost) (h : sx_oi E F r' ([((4, (9, [])), c0), ((31, (6, [])), c1), ((16, (4, [])), c2), ((15, (0, [])), c3), ((15, (1, [])), c4), ((15, (2, [])), c5), ((15, (3, [])), c6), ((14, (9, [])), c7), ((14, (221, [])), c8), ((14, (433, [])), c9), ((14, (645, [])), c10), ((100, (10000, [])), (1, []))] ++ more) M') (e0 : sx_e r' c0 = v' 0) (e1 : sx_e r' c1 = v' 1) (e2 : sx_e r' c2 = v' 2) (e3 : sx_e r' c3 = v' 3) (e4 : sx_e r' c4 = v' 4) (e5 : sx_e r' c5 = v' 5) (e6 : sx_e r' c6 = v' 6) (e7 : sx_e r' c7 = v' 7) (e8 : sx_e r' c8 = v' 8) (e9 : sx_e r' c9 = v' 9) (e10 : sx_e r' c10 = v' 10) : sx_oi ly_E (pl, M', v', nt_ghost) v' ly_C M' := by
  have key : ∀ (g : Nat) (j : Int) (c : sx_L) (u : Nat), g < 66 → ((g, (j, [])), c) ∈ ([((4, (9, [])), c0), ((31, (6, [])), c1), ((16, (4, [])), c2), ((15, (0, [])), c3), ((15, (1, [])), c4), ((15, (2, [])), c5), ((15, (3, [])), c6), ((14, (9, [])), c7), ((14, (221, [])), c8), ((14, (433, [])), c9), ((14, (645, [])), c10), ((100, (10000, [])), (1, []))] ++ more : sx_I) → sx_e r' c = v' u → (g < ly_E.2.1.length ∨ 100 ≤ g) ∧ sx_rd (pl, M', v', nt_ghost) M' g (sx_e v' (j, [])) = sx_e v' (0, [(u, 1)]) := by
    intro g j c u hg hm he
    refine ⟨Or.inl hg, ?_⟩
    have := (h _ hm).2
    dsimp only at this
    rw [sx_c_e] at this ⊢
    rw [sx_s_e, ← he, ← this]
    unfold sx_rd
    dsimp only
    rw [if_neg (show ¬ 100 ≤ g by omega), if_neg (show ¬ 100 ≤ g by omega), hpl g hg]
  intro q hq
  rcases List.mem_cons.mp hq with rfl | hq
  · exact key _ _ _ _ (by decide) (List.mem_append_left _ (List.mem_of_getElem? (i := 0) rfl)) e0
  rcases List.mem_cons.mp hq with rfl | hq
  · exact key _ _ _ _ (by decide) (List.mem_append_left _ (List.mem_of_getElem? (i := 1) rfl)) e1
  rcases List.mem_cons.mp hq with rfl | hq
  · exact key _ _ _ _ (by decide) (List.mem_append_left _ (List.mem_of_getElem? (i := 2) rfl)) e2
  rcases List.mem_cons.mp hq with rfl | hq
  · exact key _ _ _ _ (by decide) (List.mem_append_left _ (List.mem_of_getElem? (i := 3) rfl)) e3
  rcases List.mem_cons.mp hq with rfl | hq
  · exact key _ _ _ _ (by decide) (List.mem_append_left _ (List.mem_of_getElem? (i := 4) rfl)) e4
  rcases List.mem_cons.mp hq with rfl | hq
  · exact key _ _ _ _ (by decide) (List.mem_append_left _ (List.mem_of_getElem? (i := 5) rfl)) e5
  rcases List.mem_cons.mp hq with rfl | hq
  · exact key _ _ _ _ (by decide) (List.mem_append_left _ (List.mem_of_getElem? (i := 6) rfl)) e6
  rcases List.mem_cons.mp hq with rfl | hq
  · exact key _ _ _ _ (by decide) (List.mem_append_left _ (List.mem_of_getElem? (i := 7) rfl)) e7
  rcases List.mem_cons.mp hq with rfl | hq
  · exact key _ _ _ _ (by decide) (List.mem_append_left _ (List.mem_of_getElem? (i := 8) rfl)) e8
  rcases List.mem_cons.mp hq with rfl | hq
  · exact key _ _ _ _ (by decide) (List.mem_append_left _ (List.mem_of_getElem? (i := 9) rfl)) e9
  rcases List.mem_cons.mp hq with rfl | hq
  · exact key _ _ _ _ (by decide) (List.mem_append_left _ (List.mem_of_getElem? (i := 10) rfl)) e10
  · rw [List.mem_singleton.mp hq]
    refine ⟨Or.inr (by decide), ?_⟩
    have := (h _ (List.mem_append_left _ (List.mem_of_getElem? (i := 11) rfl))).2
    dsimp only at this ⊢
    rw [sx_c_e, sx_c_e] at this ⊢
    rw [← this]
    unfold sx_rd
    rw [if_pos (by decide), if_pos (by decide), hF]
    refine ly_gh (E := ly_E) (F := (pl, M', v', nt_ghost)) rfl rfl 0 _ _ _ ?_
    intro g hh j hj
    have : g = 1 ∨ g = 2 ∨ g = 3 := by
      rcases List.mem_cons.mp hh with e | hh
      · exact Or.inl e
      rcases List.mem_cons.mp hh with e | hh
      · exact Or.inr (Or.inl e)
      · exact Or.inr (Or.inr (List.mem_singleton.mp hh))
    rw [hpl g (by omega)]
/-- refs, of the regions that are always there -/
theorem ly_or2 {E : sx_E} {pl pl' : Nat → Nat} {r' v' : Nat → Int} {more : sx_R} {M' : nt_M} (hpl : ∀ h, h < 66 → pl' h = pl h) (h : sx_or E pl' r' (ly_R ++ more) M') : sx_or ly_E pl v' ly_R M' := by
  intro q hq
  have l := List.all_eq_true.mp (show ly_R.all (fun q => sx_lw 0 q.1.2 && (Nat.blt q.1.1 66 && (Nat.blt 0 q.2 && Nat.ble q.2 66))) = true from by decide +kernel) q hq
  rw [Bool.and_eq_true, Bool.and_eq_true, Bool.and_eq_true] at l
  obtain ⟨l1, l2, l3, l4⟩ := l
  have l2 := Nat.blt_eq.mp l2
  have l3 := Nat.blt_eq.mp l3
  have l4 := Nat.le_of_ble_eq_true l4
  obtain ⟨h1, h2, h3⟩ := h q (List.mem_append_left _ hq)
  have e : sx_e v' q.1.2 = sx_e r' q.1.2 := sx_e_up (n := 0) (fun s hs => by omega) l1
  rw [e]
  refine ⟨⟨l2, l4⟩, h2, ?_⟩
  rw [hpl _ l2] at h3
  rw [h3]
  unfold sx_rq
  rw [if_neg (by omega), if_neg (by omega), hpl _ (by omega)]
theorem lq_Tpl {pl : Nat → Nat} {a : Nat} {M M' : nt_M} (h : lq_T (ly_pl pl a) M M') : lq_T pl M M' := by
  intro g j hc
  have q := h g j hc
  rw [ly_pl1 (lq_c66 hc)] at q
  exact q
end
section
/-! calls that change what is known -/
theorem ly_obr {v r : Nat → Int} (hr : ∀ s, s < 11 → r s = v s) (h : sx_ob v ly_b) : sx_ob r ly_b := by
  intro q hq
  have l := Nat.blt_eq.mp (List.all_eq_true.mp (show ly_b.all (fun q => Nat.blt q.1 11) = true from by decide +kernel) q hq)
  rw [hr _ l]
  exact h q hq
theorem ly_oba {r : Nat → Int} {a b : sx_B} (h1 : sx_ob r a) (h2 : sx_ob r b) : sx_ob r (a ++ b) := by
  intro q hq
  rcases List.mem_append.mp hq with h | h
  · exact h1 q h
  · exact h2 q h
theorem ly_ob1 {r : Nat → Int} {u : Nat} {lo hi : Int} (h : lo ≤ r u ∧ r u ≤ hi) : sx_ob r [(u, lo, hi)] := by
  intro q hq
  rw [List.mem_singleton.mp hq]
  exact h
theorem ly_obI {r : Nat → Int} {u : Nat} {x : Int32} (h : r u = x.toInt) : sx_ob r [(u, -2147483648, 2147483647)] := by
  refine ly_ob1 ?_
  have l1 := x.le_toInt
  have l2 := x.toInt_lt
  rw [h]
  omega
theorem ly_oc0 {r : Nat → Int} : sx_oc r [] := fun q hq => by cases hq
theorem ly_e1 {r : Nat → Int} {u : Nat} {z : Int} (h : r u = z) : sx_e r (0, [(u, 1)]) = z := (sx_s_e r u).trans h
theorem ly_run {X : nt_X} {K : sx_K} {pl : Nat → Nat} {r : Nat → Int} {M : nt_M} {d : Nat} {vs : List Value} (hK : sx_KOK X (sx_tbs, sx_gps) K) (hd : K.2.1 ≤ d) (hargs : sx_os pl r K.2.2.2.2.1 vs) (hon : sx_on (sx_KE (sx_tbs, sx_gps) K) (pl, M, r, nt_ghost) r K.2.2.2.2.2.1 M) : ∃ o, nt_ev X d K.1 vs M o ∧ ∃ p ∈ K.2.2.2.2.2.2, ∃ r', sx_ov pl r' p.1 o.1 ∧ sx_on (sx_KE (sx_tbs, sx_gps) K) (pl, M, r, nt_ghost) r' p.2 o.2 := hK (pl, M, r, nt_ghost) r vs M d hd rfl rfl rfl hargs hon
theorem ly_ij {K : sx_K} {pl : Nat → Nat} {v : Nat → Int} {M : nt_M} (hD : K.2.2.1 = ly_D) (hB : ly_B pl v M) : sx_ij (sx_KE (sx_tbs, sx_gps) K) pl := by
  intro a b ha hb e
  have ha : a < K.2.2.1.length := ha
  have hb : b < K.2.2.1.length := hb
  rw [hD] at ha hb
  exact hB.1 a b ha hb e
theorem ly_nil {pl : Nat → Nat} {M : nt_M} : ∀ h q, ([] : sx_D)[h]? = some q → pl (66 + h) < nt_n M ∧ nt_k M (pl (66 + h)) = q.1 ∧ (q.2.1 ≤ (nt_l M (pl (66 + h)) : Int) ∧ (nt_l M (pl (66 + h)) : Int) ≤ q.2.2.1) ∧ nt_l M (pl (66 + h)) < 2147483648 ∧ ∀ j, (sx_iv (sx_tbs.getD q.2.2.2 []) j).1 ≤ (nt_I M (pl (66 + h)) j).toInt ∧ (nt_I M (pl (66 + h)) j).toInt ≤ (sx_iv (sx_tbs.getD q.2.2.2 []) j).2 := fun h q hq => by
  rw [List.getElem?_nil] at hq
  cases hq
theorem ly_oiC {K : sx_K} {F : sx_F} {pl : Nat → Nat} {r' v' : Nat → Int} {M' : nt_M} {more : sx_I} (hpl : ∀ h, h < 66 → F.1 h = pl h) (hF : F.2.2.2 = nt_ghost) (h : sx_oi (sx_KE (sx_tbs, sx_gps) K) F r' (ly_C ++ more) M') (hr : ∀ s, s < 11 → r' s = v' s) : sx_oi ly_E (pl, M', v', nt_ghost) v' ly_C M' :=
  ly_oi2 (c0 := (0, [(0, 1)])) (c1 := (0, [(1, 1)])) (c2 := (0, [(2, 1)])) (c3 := (0, [(3, 1)])) (c4 := (0, [(4, 1)])) (c5 := (0, [(5, 1)])) (c6 := (0, [(6, 1)])) (c7 := (0, [(7, 1)])) (c8 := (0, [(8, 1)])) (c9 := (0, [(9, 1)])) (c10 := (0, [(10, 1)])) hpl hF h (ly_e1 (hr 0 (by omega))) (ly_e1 (hr 1 (by omega))) (ly_e1 (hr 2 (by omega))) (ly_e1 (hr 3 (by omega))) (ly_e1 (hr 4 (by omega))) (ly_e1 (hr 5 (by omega))) (ly_e1 (hr 6 (by omega))) (ly_e1 (hr 7 (by omega))) (ly_e1 (hr 8 (by omega))) (ly_e1 (hr 9 (by omega))) (ly_e1 (hr 10 (by omega)))
theorem ly_seedC {X : nt_X} {pl : Nat → Nat} {v : Nat → Int} {M : nt_M} {d : Nat} (x : Int32) (hB : ly_B pl v M) : ∃ (y : Int32) (M' : nt_M) (v' : Nat → Int), nt_ev X d 124 [.ref (pl 16), .int x] M (some (.int y), M') ∧ ly_B pl v' M' ∧ ly_fs pl M M' ∧ (∀ s, s < 11 → s ≠ 1 → v' s = v s) ∧ ((x.toInt < 0 ∧ y.toInt = -1 ∧ v' 1 = v 1) ∨ (0 ≤ x.toInt ∧ y.toInt = v 1 ∧ v' 1 = x.toInt)) := by
  obtain ⟨r, hr, h11⟩ : ∃ r : Nat → Int, (∀ s, s < 11 → r s = v s) ∧ r 11 = x.toInt := ⟨fun s => if s = 11 then x.toInt else v s, fun s hs => if_neg (by omega), if_pos rfl⟩
  have hij := ly_ij (K := kk_w_n_seed) rfl hB
  have hon := ly_app (K := kk_w_n_seed) (ed := []) (ec := []) (er := []) rfl hB (fun _ _ => rfl) hr hij ly_nil (fun q hq => by cases hq) (fun q hq => by cases hq) (ly_oba (ly_obr hr (ly_ob hB)) (ly_obI h11)) ly_oc0
  obtain ⟨o, h1, p, hp, r', h2, h3⟩ := ly_run (ko_w_n_seed X) (Nat.zero_le d) (vs := [.ref (pl 16), .int x]) ⟨rfl, ⟨x, rfl, (ly_e1 h11).symm⟩, trivial⟩ hon
  have hr' : ∀ s, s < 12 → r' s = r s := fun s hs => h3.2.2.2.2.2.1 s hs
  have fr := ly_fsm (Nat.le_of_eq rfl) hij (by decide +kernel) (by decide +kernel) h3.2.2.2.2.2.2
  obtain ⟨ov, M'⟩ := o
  rcases List.mem_cons.mp hp with rfl | hp
  · cases ov with
    | none => exact h2.elim
    | some w =>
      obtain ⟨y, rfl, hy⟩ := h2
      have c := h3.2.2.2.2.1.2 ((-1), [(11, (-1))]) (List.Mem.head _)
      have c : (0 : Int) ≤ -1 + (-1 * r' 11 + 0) := c
      have e11 := hr' 11 (by omega)
      refine ⟨y, M', v, h1, ly_bk (ed := []) rfl rfl (fun _ _ => rfl) h3 (ly_oiC (more := []) (fun _ _ => rfl) rfl h3.2.2.1 (fun s hs => (hr' s (by omega)).trans (hr s hs))) (ly_or2 (more := []) (fun _ _ => rfl) h3.2.2.2.1), fr, fun _ _ _ => rfl, Or.inl ⟨by omega, hy.trans (sx_c_e _ _), rfl⟩⟩
  · rw [List.mem_singleton.mp hp] at h2 h3
    cases ov with
    | none => exact h2.elim
    | some w =>
      obtain ⟨y, rfl, hy⟩ := h2
      have c := h3.2.2.2.2.1.2 (0, [(11, 1)]) (List.Mem.head _)
      have c : (0 : Int) ≤ 0 + (1 * r' 11 + 0) := c
      have e11 := hr' 11 (by omega)
      have hs : ∀ s, s < 11 → r' s = v s := fun s hs => (hr' s (by omega)).trans (hr s hs)
      refine ⟨y, M', fun s => if s = 1 then x.toInt else v s, h1, ly_bk (ed := []) rfl rfl (fun _ _ => rfl) h3 (ly_oi2 (more := []) (fun _ _ => rfl) rfl h3.2.2.1 (ly_e1 (hs 0 (by omega))) (ly_e1 (by rw [e11, h11]; rfl)) (ly_e1 (hs 2 (by omega))) (ly_e1 (hs 3 (by omega))) (ly_e1 (hs 4 (by omega))) (ly_e1 (hs 5 (by omega))) (ly_e1 (hs 6 (by omega))) (ly_e1 (hs 7 (by omega))) (ly_e1 (hs 8 (by omega))) (ly_e1 (hs 9 (by omega))) (ly_e1 (hs 10 (by omega)))) (ly_or2 (more := []) (fun _ _ => rfl) h3.2.2.2.1), fr, fun s _ h => if_neg h, Or.inr ⟨by omega, hy.trans (ly_e1 (hs 1 (by omega))), if_pos rfl⟩⟩
theorem ly_seedR {X : nt_X} {pl : Nat → Nat} {v : Nat → Int} {M : nt_M} {d : Nat} (x : Int32) (hB : ly_B pl v M) : ∃ (y : Int32) (M' : nt_M) (v' : Nat → Int), nt_ev X d 230 [.ref (pl 0), .int x] M (some (.int y), M') ∧ ly_B pl v' M' ∧ ly_fs pl M M' ∧ (∀ s, s < 11 → s ≠ 0 → v' s = v s) ∧ ((x.toInt < 0 ∧ y.toInt = -1 ∧ v' 0 = v 0) ∨ (0 ≤ x.toInt ∧ y.toInt = v 0 ∧ v' 0 = x.toInt)) := by
  obtain ⟨r, hr, h11⟩ : ∃ r : Nat → Int, (∀ s, s < 11 → r s = v s) ∧ r 11 = x.toInt := ⟨fun s => if s = 11 then x.toInt else v s, fun s hs => if_neg (by omega), if_pos rfl⟩
  have hij := ly_ij (K := kk_w_seed) rfl hB
  have hon := ly_app (K := kk_w_seed) (ed := []) (ec := []) (er := []) rfl hB (fun _ _ => rfl) hr hij ly_nil (fun q hq => by cases hq) (fun q hq => by cases hq) (ly_oba (ly_obr hr (ly_ob hB)) (ly_obI h11)) ly_oc0
  obtain ⟨o, h1, p, hp, r', h2, h3⟩ := ly_run (ko_w_seed X) (Nat.zero_le d) (vs := [.ref (pl 0), .int x]) ⟨rfl, ⟨x, rfl, (ly_e1 h11).symm⟩, trivial⟩ hon
  have hr' : ∀ s, s < 12 → r' s = r s := fun s hs => h3.2.2.2.2.2.1 s hs
  have fr := ly_fsm (Nat.le_of_eq rfl) hij (by decide +kernel) (by decide +kernel) h3.2.2.2.2.2.2
  obtain ⟨ov, M'⟩ := o
  rcases List.mem_cons.mp hp with rfl | hp
  · cases ov with
    | none => exact h2.elim
    | some w =>
      obtain ⟨y, rfl, hy⟩ := h2
      have c := h3.2.2.2.2.1.2 ((-1), [(11, (-1))]) (List.Mem.head _)
      have c : (0 : Int) ≤ -1 + (-1 * r' 11 + 0) := c
      have e11 := hr' 11 (by omega)
      refine ⟨y, M', v, h1, ly_bk (ed := []) rfl rfl (fun _ _ => rfl) h3 (ly_oiC (more := []) (fun _ _ => rfl) rfl h3.2.2.1 (fun s hs => (hr' s (by omega)).trans (hr s hs))) (ly_or2 (more := []) (fun _ _ => rfl) h3.2.2.2.1), fr, fun _ _ _ => rfl, Or.inl ⟨by omega, hy.trans (sx_c_e _ _), rfl⟩⟩
  · rw [List.mem_singleton.mp hp] at h2 h3
    cases ov with
    | none => exact h2.elim
    | some w =>
      obtain ⟨y, rfl, hy⟩ := h2
      have c := h3.2.2.2.2.1.2 (0, [(11, 1)]) (List.Mem.head _)
      have c : (0 : Int) ≤ 0 + (1 * r' 11 + 0) := c
      have e11 := hr' 11 (by omega)
      have hs : ∀ s, s < 11 → r' s = v s := fun s hs => (hr' s (by omega)).trans (hr s hs)
      refine ⟨y, M', fun s => if s = 0 then x.toInt else v s, h1, ly_bk (ed := []) rfl rfl (fun _ _ => rfl) h3 (ly_oi2 (more := []) (fun _ _ => rfl) rfl h3.2.2.1 (ly_e1 (by rw [e11, h11]; rfl)) (ly_e1 (hs 1 (by omega))) (ly_e1 (hs 2 (by omega))) (ly_e1 (hs 3 (by omega))) (ly_e1 (hs 4 (by omega))) (ly_e1 (hs 5 (by omega))) (ly_e1 (hs 6 (by omega))) (ly_e1 (hs 7 (by omega))) (ly_e1 (hs 8 (by omega))) (ly_e1 (hs 9 (by omega))) (ly_e1 (hs 10 (by omega)))) (ly_or2 (more := []) (fun _ _ => rfl) h3.2.2.2.1), fr, fun s _ h => if_neg h, Or.inr ⟨by omega, hy.trans (ly_e1 (hs 0 (by omega))), if_pos rfl⟩⟩
end
section
/-! the class reads a yard: now and spare may change places -/
def ly_sg (g : Nat) : Nat := if 31 ≤ g ∧ g < 48 then g + 17 else if 48 ≤ g ∧ g < 65 then g - 17 else g
theorem ly_sg_lt {g : Nat} (h : g < 66) : ly_sg g < 66 := by
  unfold ly_sg
  split
  · omega
  · split <;> omega
theorem ly_sg_inj {a b : Nat} (h : ly_sg a = ly_sg b) : a = b := by
  unfold ly_sg at h
  by_cases a1 : 31 ≤ a ∧ a < 48
  · rw [if_pos a1] at h
    by_cases b1 : 31 ≤ b ∧ b < 48
    · rw [if_pos b1] at h; omega
    · rw [if_neg b1] at h
      by_cases b2 : 48 ≤ b ∧ b < 65
      · rw [if_pos b2] at h; omega
      · rw [if_neg b2] at h; omega
  · rw [if_neg a1] at h
    by_cases a2 : 48 ≤ a ∧ a < 65
    · rw [if_pos a2] at h
      by_cases b1 : 31 ≤ b ∧ b < 48
      · rw [if_pos b1] at h; omega
      · rw [if_neg b1] at h
        by_cases b2 : 48 ≤ b ∧ b < 65
        · rw [if_pos b2] at h; omega
        · rw [if_neg b2] at h; omega
    · rw [if_neg a2] at h
      by_cases b1 : 31 ≤ b ∧ b < 48
      · rw [if_pos b1] at h; omega
      · rw [if_neg b1] at h
        by_cases b2 : 48 ≤ b ∧ b < 65
        · rw [if_pos b2] at h; omega
        · rw [if_neg b2] at h; exact h
theorem ly_sg_D : (List.range 66).all (fun g => (match ly_D[g]?, ly_D[ly_sg g]? with | some p, some q => sx_deq p q | _, _ => false)) = true := by decide +kernel
def ly_RS : sx_R := (kk_w_n_yard.2.2.2.2.2.2.getD 1 (none, ([], [], ([], []), 0))).2.2.1
theorem ly_sg_R : ly_R.all (fun q => ly_RS.any (fun p => Nat.beq p.1.1 (ly_sg q.1.1) && (sx_leq p.1.2 q.1.2 && Nat.beq p.2 (ly_sg (q.2 - 1) + 1)))) = true := by decide +kernel
theorem ly_yardC {X : nt_X} {pl : Nat → Nat} {v : Nat → Int} {M : nt_M} {d : Nat} (hd : 9 ≤ d) (hB : ly_B pl v M) : ∃ (y : Int32) (M' : nt_M) (pl' : Nat → Nat), nt_ev X d 104 [.ref (pl 16)] M (some (.int y), M') ∧ ly_B pl' v M' ∧ ly_fr 66 pl M M' ∧ (pl' = pl ∨ pl' = fun g => pl (ly_sg g)) := by
  have hij := ly_ij (K := kk_w_n_yard) rfl hB
  have hon := ly_app (K := kk_w_n_yard) (r := v) (ed := []) (ec := []) (er := []) rfl hB (fun _ _ => rfl) (fun _ _ => rfl) hij ly_nil (fun q hq => by cases hq) (fun q hq => by cases hq) (ly_ob hB) ly_oc0
  obtain ⟨o, h1, p, hp, r', h2, h3⟩ := ly_run (ko_w_n_yard X) hd (vs := [.ref (pl 16)]) ⟨rfl, trivial⟩ hon
  have hr' : ∀ s, s < 11 → r' s = v s := fun s hs => h3.2.2.2.2.2.1 s hs
  have fr := ly_frm (n := 66) (Nat.le_of_eq rfl) (Nat.le_refl _) hij (by decide +kernel) (by decide +kernel) h3.2.2.2.2.2.2
  obtain ⟨ov, M'⟩ := o
  rcases List.mem_cons.mp hp with rfl | hp
  · cases ov with
    | none => exact h2.elim
    | some w =>
      obtain ⟨y, rfl, hy⟩ := h2
      exact ⟨y, M', pl, h1, ly_bk (ed := []) rfl rfl (fun _ _ => rfl) h3 (ly_oiC (more := []) (fun _ _ => rfl) rfl h3.2.2.1 hr') (ly_or2 (more := []) (fun _ _ => rfl) h3.2.2.2.1), fr, Or.inl rfl⟩
  · rw [List.mem_singleton.mp hp] at h2 h3
    cases ov with
    | none => exact h2.elim
    | some w =>
      obtain ⟨y, rfl, hy⟩ := h2
      refine ⟨y, M', fun g => pl (ly_sg g), h1, ⟨fun a b ha hb e => ?_, ⟨h3.2.1.1, fun g q hq => ?_⟩, fun q hq => ?_, fun q hq => ?_⟩, fr, Or.inr rfl⟩
      · have ha : a < 66 := ha
        have hb : b < 66 := hb
        exact ly_sg_inj (hB.1 (ly_sg a) (ly_sg b) (ly_sg_lt ha) (ly_sg_lt hb) e)
      · have hq0 : ly_D[g]? = some q := hq
        have hg : g < 66 := (List.getElem?_eq_some_iff.mp hq0).1
        have l := List.all_eq_true.mp ly_sg_D g (List.mem_range.mpr hg)
        rw [hq0] at l
        cases hs : ly_D[ly_sg g]? with
        | none => rw [hs] at l; cases l
        | some q' =>
          rw [hs] at l
          have l := sx_deq_ok l
          exact h3.2.1.2 (ly_sg g) q (by rw [l]; exact hs)
      · have key : ∀ (g g' : Nat) (j : Int) (u : Nat), g < 66 → ly_sg g = g' → g' < 66 → u < 11 → ((g', (j, [])), (0, [(u, 1)])) ∈ (kk_w_n_yard.2.2.2.2.2.2.getD 1 (none, ([], [], ([], []), 0))).2.1 → (g < ly_E.2.1.length ∨ 100 ≤ g) ∧ sx_rd ((fun g => pl (ly_sg g)), M', v, nt_ghost) M' g (sx_e v (j, [])) = sx_e v (0, [(u, 1)]) := by
          intro g g' j u hg e hg' hu hm
          refine ⟨Or.inl hg, ?_⟩
          have := (h3.2.2.1 _ hm).2
          dsimp only at this
          rw [sx_c_e, sx_s_e, hr' u hu] at this
          rw [sx_c_e, sx_s_e, ← this]
          unfold sx_rd
          dsimp only
          rw [if_neg (show ¬ 100 ≤ g by omega), if_neg (show ¬ 100 ≤ g' by omega), e]
        rcases List.mem_cons.mp hq with rfl | hq
        · exact key _ 4 _ _ (by decide) rfl (by decide) (by decide) (List.mem_of_getElem? (i := 0) rfl)
        rcases List.mem_cons.mp hq with rfl | hq
        · exact key _ 48 _ _ (by decide) rfl (by decide) (by decide) (List.mem_of_getElem? (i := 1) rfl)
        rcases List.mem_cons.mp hq with rfl | hq
        · exact key _ 16 _ _ (by decide) rfl (by decide) (by decide) (List.mem_of_getElem? (i := 2) rfl)
        rcases List.mem_cons.mp hq with rfl | hq
        · exact key _ 15 _ _ (by decide) rfl (by decide) (by decide) (List.mem_of_getElem? (i := 3) rfl)
        rcases List.mem_cons.mp hq with rfl | hq
        · exact key _ 15 _ _ (by decide) rfl (by decide) (by decide) (List.mem_of_getElem? (i := 4) rfl)
        rcases List.mem_cons.mp hq with rfl | hq
        · exact key _ 15 _ _ (by decide) rfl (by decide) (by decide) (List.mem_of_getElem? (i := 5) rfl)
        rcases List.mem_cons.mp hq with rfl | hq
        · exact key _ 15 _ _ (by decide) rfl (by decide) (by decide) (List.mem_of_getElem? (i := 6) rfl)
        rcases List.mem_cons.mp hq with rfl | hq
        · exact key _ 14 _ _ (by decide) rfl (by decide) (by decide) (List.mem_of_getElem? (i := 7) rfl)
        rcases List.mem_cons.mp hq with rfl | hq
        · exact key _ 14 _ _ (by decide) rfl (by decide) (by decide) (List.mem_of_getElem? (i := 8) rfl)
        rcases List.mem_cons.mp hq with rfl | hq
        · exact key _ 14 _ _ (by decide) rfl (by decide) (by decide) (List.mem_of_getElem? (i := 9) rfl)
        rcases List.mem_cons.mp hq with rfl | hq
        · exact key _ 14 _ _ (by decide) rfl (by decide) (by decide) (List.mem_of_getElem? (i := 10) rfl)
        · rw [List.mem_singleton.mp hq]
          refine ⟨Or.inr (by decide), ?_⟩
          have := (h3.2.2.1 _ (List.mem_of_getElem? (i := 11) rfl)).2
          dsimp only at this ⊢
          rw [sx_c_e, sx_c_e] at this ⊢
          rw [← this]
          unfold sx_rd
          rw [if_pos (by decide), if_pos (by decide)]
          refine ly_gh (E := ly_E) (F := (pl, M', v, nt_ghost)) rfl rfl 0 _ _ _ ?_
          intro g hh j hj
          rcases List.mem_cons.mp hh with rfl | hh
          · rfl
          rcases List.mem_cons.mp hh with rfl | hh
          · rfl
          · rw [List.mem_singleton.mp hh]
            rfl
      · obtain ⟨p2, hp2, l⟩ := List.any_eq_true.mp (List.all_eq_true.mp ly_sg_R q hq)
        rw [Bool.and_eq_true, Bool.and_eq_true] at l
        have l1 := Nat.eq_of_beq_eq_true l.1
        have l2 := sx_leq_ok l.2.1
        have l3 := Nat.eq_of_beq_eq_true l.2.2
        have lr := List.all_eq_true.mp (show ly_R.all (fun q => sx_lw 0 q.1.2 && (Nat.blt q.1.1 66 && (Nat.blt 0 q.2 && Nat.ble q.2 66))) = true from by decide +kernel) q hq
        rw [Bool.and_eq_true, Bool.and_eq_true, Bool.and_eq_true] at lr
        obtain ⟨m1, m2, m3, m4⟩ := lr
        have m2 := Nat.blt_eq.mp m2
        have m3 := Nat.blt_eq.mp m3
        have m4 := Nat.le_of_ble_eq_true m4
        obtain ⟨k1, k2, k3⟩ := h3.2.2.2.1 p2 hp2
        have e : sx_e v q.1.2 = sx_e r' q.1.2 := sx_e_up (n := 0) (fun s hs => by omega) m1
        rw [l2, ← e] at k2 k3
        refine ⟨⟨m2, m4⟩, k2, ?_⟩
        rw [l1] at k3
        rw [k3, l3]
        unfold sx_rq
        rw [if_neg (by omega), if_neg (by omega)]
        rfl
theorem ly_S_sg {pl : Nat → Nat} {mk xi : Nat → Int} {rc : Int} {M : nt_M} (h : ly_S pl mk xi rc M) : ly_S (fun g => pl (ly_sg g)) mk xi rc M := by
  obtain ⟨⟨p1, p2, p3, p4⟩, p5, p6⟩ := h
  exact ⟨⟨fun g hg => p1 _ (ly_sg_lt hg), p2, p3, p4⟩, p5, p6⟩
/-- calls by a rule that is there -/
theorem ly_genR {X : nt_X} {K : sx_K} {pl : Nat → Nat} {v r mk xi : Nat → Int} {M : nt_M} {d g dl n : Nat} {mo : List (Nat × Int × Int)} {rm : List (Nat × Nat)} {args : List sx_V} {bd : sx_B} {cs : List sx_L} {vs : List Value} (hK : sx_KOK X (sx_tbs, sx_gps) K) (hKe : K = (g, dl, ly_D ++ [(4, 0, 0, 0), (13, 0, 400, 0)], (mo, rm), args, (ly_C ++ [], ly_R ++ [((23, (0, [(11, 1)])), 67), ((66, (0, [])), 68)], (bd, cs), n), [(some (0, 0, (0, [(n, 1)])), (ly_C, ly_R ++ [((23, (0, [(11, 1)])), 67), ((66, (0, [])), 68)], ([(n, -2147483648, 2147483647)], []), n + 1))])) (hn : 11 ≤ n) (hmo : mo.all (lq_b 66) = true) (hrm : rm.all (fun q => Nat.blt q.1 66 && (!Nat.beq q.1 23 && !Nat.beq q.1 65)) = true) (hd : dl ≤ d) (hB : ly_B pl v M) (hS : ly_S pl mk xi (v 2) M) (hr : ∀ s, s < 11 → r s = v s) (h0 : 0 ≤ r 11) (h1 : r 11 < v 2) (hargs : ∀ b, sx_os (ly_pl pl b) r args vs) (hob : sx_ob r bd) (hoc : sx_oc r cs) : ∃ (x : Int32) (M' : nt_M), nt_ev X d g vs M (some (.int x), M') ∧ ly_B pl v M' ∧ ly_fs pl M M' := by
  obtain ⟨⟨p1, p2, p3, p4⟩, p5, T, p7, p8⟩ := hS
  obtain ⟨b, c1, c2, c3, c4, c5, c6, c7⟩ := p8 (r 11).toNat (by omega)
  have hij : sx_ij (sx_KE (sx_tbs, sx_gps) K) (ly_pl pl b) := ly_pij p1 c2 hB.1
  have hlen : (sx_KE (sx_tbs, sx_gps) K).2.1.length = 68 := by rw [hKe]; rfl
  have hon := ly_app hKe hB (fun h hh => ly_pl1 hh) hr hij (fun h q hq => by
    rw [ly_pl2 (by omega), show 66 + h - 66 = h from by omega]
    exact c6 h q hq) (fun q hq => by cases hq) (fun q hq => by
    rcases List.mem_cons.mp hq with rfl | hq
    · refine ⟨⟨by rw [hlen]; decide, by rw [hlen]; decide⟩, ?_, ?_⟩
      · dsimp only
        rw [sx_s_e]
        exact h0
      · dsimp only
        rw [sx_s_e, ly_pl1 (by decide), c1]
        rfl
    · rw [List.mem_singleton.mp hq]
      refine ⟨⟨by rw [hlen]; decide, by rw [hlen]; decide⟩, by dsimp only; rw [sx_c_e]; decide, ?_⟩
      dsimp only
      rw [sx_c_e]
      exact c7) hob hoc
  subst hKe
  obtain ⟨o, k1, p, hp, r', k2, k3⟩ := ly_run hK hd (hargs b) hon
  rw [List.mem_singleton.mp hp] at k2 k3
  obtain ⟨ov, M'⟩ := o
  cases ov with
  | none => exact k2.elim
  | some w =>
    obtain ⟨x, rfl, hx⟩ := k2
    have hr' : ∀ s, s < 11 → r' s = v s := fun s hs => (k3.2.2.2.2.2.1 s (Nat.lt_of_lt_of_le hs hn)).trans (hr s hs)
    have fr := ly_fsm (by show 66 ≤ 68; omega) hij hmo hrm k3.2.2.2.2.2.2
    have fr : ly_fs pl M M' := by
      obtain ⟨⟨f1, f2, f3⟩, f4⟩ := fr
      exact ⟨⟨f1, fun a ha => f2 a (fun g hg => by rw [ly_pl1 hg]; exact ha g hg), fun g j hg => by
        have := f3 g j hg
        rw [ly_pl1 (by omega)] at this
        exact this⟩, lq_Tpl f4⟩
    exact ⟨x, M', k1, ly_bk (ed := [(4, 0, 0, 0), (13, 0, 400, 0)]) rfl rfl (fun h hh => ly_pl1 hh) k3 (ly_oiC (more := []) (fun h hh => ly_pl1 hh) rfl k3.2.2.1 hr') (ly_or2 (fun h hh => ly_pl1 hh) k3.2.2.2.1), fr⟩
end
section
/-! images -/
theorem ly_lw0 {r : Nat → Int} {L : sx_L} (h : sx_lw 0 L = true) : sx_e r L = L.1 := by
  obtain ⟨c, l⟩ := L
  cases l with
  | nil => exact sx_c_e r c
  | cons q t =>
    unfold sx_lw at h
    rw [List.all_cons, Bool.and_eq_true] at h
    have := Nat.blt_eq.mp h.1
    omega
theorem ly_RI_ok : ly_RI.all (fun q => Nat.ble 66 q.1.1 && (Nat.blt q.1.1 83 && (Nat.ble 68 q.2 && (Nat.ble q.2 83 && (sx_lw 0 q.1.2 && decide (0 ≤ q.1.2.1)))))) = true := by decide +kernel
theorem ly_erI {E : sx_E} {pl : Nat → Nat} {r : Nat → Int} {M : nt_M} {a k : Nat} {x : Int} (hl : E.2.1.length = 83) (hk : nt_R M (pl 65) k = some a) (h : ly_im a x M) : sx_or E (ly_pl pl a) r (((65, ((k : Int), [])), 67) :: ly_RI) M := by
  intro q hq
  rcases List.mem_cons.mp hq with rfl | hq
  · refine ⟨⟨by rw [hl]; show 65 < 83; decide, by rw [hl]; show 67 ≤ 83; decide⟩, by dsimp only; rw [sx_c_e]; omega, ?_⟩
    dsimp only
    rw [sx_c_e, ly_pl1 (by decide), show ((k : Int)).toNat = k from by omega, hk]
    rfl
  · have l := List.all_eq_true.mp ly_RI_ok q hq
    rw [Bool.and_eq_true, Bool.and_eq_true, Bool.and_eq_true, Bool.and_eq_true, Bool.and_eq_true] at l
    obtain ⟨l1, l2, l3, l4, l5, l6⟩ := l
    have l1 := Nat.le_of_ble_eq_true l1
    have l2 := Nat.blt_eq.mp l2
    have l3 := Nat.le_of_ble_eq_true l3
    have l4 := Nat.le_of_ble_eq_true l4
    have l6 := of_decide_eq_true l6
    refine ⟨⟨by rw [hl]; exact l2, by rw [hl]; exact l4⟩, by rw [ly_lw0 l5]; exact l6, ?_⟩
    rw [ly_lw0 l5, ly_pl2 l1, h.2.1 q hq]
    unfold sx_rq
    rw [if_neg (by omega), ly_pl2 (by omega), show q.2 - 1 - 66 = q.2 - 67 from by omega]
theorem ly_ecI {E : sx_E} {pl : Nat → Nat} {r : Nat → Int} {M : nt_M} {a : Nat} {x : Int} (hl : E.2.1.length = 83) (hx : r 11 = x) (h : ly_im a x M) : sx_oi E (ly_pl pl a, M, r, nt_ghost) r [((66, (6, [])), (0, [(11, 1)]))] M := by
  intro q hq
  rw [List.mem_singleton.mp hq]
  refine ⟨Or.inl (by rw [hl]; decide), ?_⟩
  dsimp only
  rw [sx_c_e, sx_s_e, hx]
  unfold sx_rd
  rw [if_neg (by decide), if_neg (by decide)]
  dsimp only
  rw [ly_pl2 (by decide)]
  exact h.2.2
theorem ly_hpI {pl : Nat → Nat} {M : nt_M} {a : Nat} {x : Int} (h : ly_im a x M) : ∀ h q, ly_ED[h]? = some q → ly_pl pl a (66 + h) < nt_n M ∧ nt_k M (ly_pl pl a (66 + h)) = q.1 ∧ (q.2.1 ≤ (nt_l M (ly_pl pl a (66 + h)) : Int) ∧ (nt_l M (ly_pl pl a (66 + h)) : Int) ≤ q.2.2.1) ∧ nt_l M (ly_pl pl a (66 + h)) < 2147483648 ∧ ∀ j, (sx_iv (sx_tbs.getD q.2.2.2 []) j).1 ≤ (nt_I M (ly_pl pl a (66 + h)) j).toInt ∧ (nt_I M (ly_pl pl a (66 + h)) j).toInt ≤ (sx_iv (sx_tbs.getD q.2.2.2 []) j).2 := fun h' q hq => by
  rw [ly_pl2 (by omega), show 66 + h' - 66 = h' from by omega]
  exact h.1 h' q hq
/-- other images stay -/
def lq_J (pl : Nat → Nat) (k : Nat) (M M' : nt_M) : Prop := (∀ k', k' < 4 → k' ≠ k → nt_R M' (pl 65) k' = nt_R M (pl 65) k') ∧ ∀ k' a', k' < 4 → k' ≠ k → nt_R M (pl 65) k' = some a' → ∀ j, nt_I M' a' j = nt_I M a' j
/-- the run that copies into image k -/
def lq_I (X : nt_X) (pl : Nat → Nat) (v : Nat → Int) (d k : Nat) (y : Int32) (M M' : nt_M) : Prop := ∃ (M2 : nt_M) (a : Nat) (x : Int), ly_B pl v M2 ∧ nt_R M2 (pl 65) k = some a ∧ 66 ≤ a ∧ ly_im a x M2 ∧ nt_ev X d 127 [.ref (pl 16), .int (nI k)] M2 (some (.int y), M') ∧ (∀ g j, g < 66 → nt_I M2 (pl g) j = nt_I M (pl g) j) ∧ nt_R M' (pl 65) k = some a ∧ lq_J pl k M M' ∧ (∀ b, b < nt_n M → nt_I M2 b = nt_I M b ∧ nt_l M2 b = nt_l M b) ∧ nt_n M ≤ nt_n M2 ∧ (∀ k', k' ≠ k → nt_R M2 (pl 65) k' = nt_R M (pl 65) k') ∧ ∀ u, nt_R M2 (pl 23) u = nt_R M (pl 23) u
/-- the class: an image that is there is made again -/
theorem ly_imgC {X : nt_X} {K : sx_K} {pl : Nat → Nat} {v mk xi : Nat → Int} {M : nt_M} {d k : Nat} {mo : List (Nat × Int × Int)} (hK : sx_KOK X (sx_tbs, sx_gps) K) (hKe : K = (127, 3, ly_D ++ ly_ED, (mo, []), [(2, 16, (0, [])), (0, 0, ((k : Int), []))], (ly_C ++ [((66, (6, [])), (0, [(11, 1)]))], ly_R ++ (((65, ((k : Int), [])), 67) :: ly_RI), (ly_b ++ [(11, -2147483648, 2147483647)], []), 12), [(some (0, 0, (0, [(12, 1)])), (ly_C ++ [((66, (6, [])), (0, [(1, 1)]))], ly_R ++ (((65, ((k : Int), [])), 67) :: ly_RI), ([(12, -2147483648, 2147483647)], []), 13))])) (hmo : mo.all (lq_b 83) = true) (hk : k < 4) (hd : 3 ≤ d) (hB : ly_B pl v M) (hS : ly_S pl mk xi (v 2) M) (hm : mk k = 1) : ∃ (y : Int32) (M' : nt_M), nt_ev X d 127 [.ref (pl 16), .int (nI k)] M (some (.int y), M') ∧ lq_T pl M M' ∧ lq_I X pl v d k y M M' ∧ ly_B pl v M' ∧ ly_S pl mk (fun i => if i = k then v 1 else xi i) (v 2) M' := by
  obtain ⟨⟨p1, p2, p3, p4⟩, ⟨p5, p6⟩, T, p7, p8⟩ := hS
  rcases p7 k hk with ⟨_, c⟩ | ⟨a, c1, c2, c3, c4, c5, c6⟩
  · omega
  obtain ⟨r, hr, h11⟩ : ∃ r : Nat → Int, (∀ s, s < 11 → r s = v s) ∧ r 11 = xi k := ⟨fun s => if s = 11 then xi k else v s, fun s hs => if_neg (by omega), if_pos rfl⟩
  have hlen : (sx_KE (sx_tbs, sx_gps) K).2.1.length = 83 := by rw [hKe]; rfl
  have hij : sx_ij (sx_KE (sx_tbs, sx_gps) K) (ly_pl pl a) := ly_pij p1 c3 hB.1
  have hon := ly_app hKe hB (fun h hh => ly_pl1 hh) hr hij (ly_hpI c6) (ly_ecI hlen h11 c6) (ly_erI hlen c1 c6) (ly_oba (ly_obr hr (ly_ob hB)) (ly_obI (x := nt_I M a 6) (h11.trans c6.2.2.symm))) ly_oc0
  subst hKe
  obtain ⟨o, k1, p, hp, r', k2, k3⟩ := ly_run hK hd (vs := [.ref (pl 16), .int (nI k)]) ⟨by show Value.ref (pl 16) = .ref (ly_pl pl a 16); rw [ly_pl1 (by decide)], ⟨nI k, rfl, by rw [nI_toInt (by omega)]; exact (sx_c_e r k).symm⟩, trivial⟩ hon
  rw [List.mem_singleton.mp hp] at k2 k3
  obtain ⟨ov, M'⟩ := o
  cases ov with
  | none => exact k2.elim
  | some w =>
    obtain ⟨y, rfl, hy⟩ := k2
    have hr' : ∀ s, s < 11 → r' s = v s := fun s hs => (k3.2.2.2.2.2.1 s (by show s < 12; omega)).trans (hr s hs)
    obtain ⟨⟨f1, f2, f3, f4⟩, f5, f6⟩ := ly_frm (n := 83) (Nat.le_of_eq rfl) (by decide) hij (lq_b1 hmo) rfl k3.2.2.2.2.2.2
    have hJ : lq_J pl k M M' := by
      refine ⟨fun k' hk' _ => ?_, fun k' a' hk' hne ha' j => ?_⟩
      · have e65 := f6 65 k' (Or.inr rfl)
        rw [ly_pl1 (by decide)] at e65
        exact e65
      · rcases p7 k' hk' with ⟨c', _⟩ | ⟨a2, c1', c2', c3', c4', c5', c6'⟩
        · rw [ha'] at c'
          cases c'
        · rw [ha'] at c1'
          cases c1'
          refine (f5 a' (fun g hg e2 => ?_)).1 j
          by_cases c : g < 66
          · rw [ly_pl1 c] at e2
            have := p1 g c
            omega
          · rw [ly_pl2 (by omega)] at e2
            have t2 := c5 (g - 66) (by omega)
            rw [← e2] at t2
            have t1 := c5' 0 (by omega)
            rw [Nat.add_zero] at t1
            omega
    have r65 : nt_R M' (pl 65) k = some a := by
      have e65 := f6 65 k (Or.inr rfl)
      rw [ly_pl1 (by decide)] at e65
      rw [e65]
      exact c1
    refine ⟨y, M', k1, lq_Tpl (lq_Tm (by show 66 ≤ 83; omega) hij hmo k3.2.2.2.2.2.2), ⟨M, a, xi k, hB, c1, c3, c6, k1, fun _ _ _ => rfl, r65, hJ, fun _ _ => ⟨rfl, rfl⟩, Nat.le_refl _, fun _ _ => rfl, fun _ => rfl⟩, ly_bk (ed := ly_ED) rfl rfl (fun h hh => ly_pl1 hh) k3 (ly_oiC (fun h hh => ly_pl1 hh) rfl k3.2.2.1 hr') (ly_or2 (fun h hh => ly_pl1 hh) k3.2.2.2.1), ⟨p1, p2, p3, by rw [f1]; exact p4⟩, ⟨by rw [f1]; exact p5, by rw [f2]; exact p6⟩, T, fun k' hk' => ?_, fun u hu => ?_⟩
    · have e65 := f6 65 k' (Or.inr rfl)
      rw [ly_pl1 (by decide)] at e65
      rw [e65, f1]
      by_cases e : k' = k
      · subst e
        refine Or.inr ⟨a, c1, c2, c3, c4, c5, ⟨fun h q hq => ?_, fun q hq => ?_, ?_⟩⟩
        · have := k3.2.1.2 (66 + h) q (by
            show (ly_D ++ ly_ED)[66 + h]? = some q
            rw [List.getElem?_append_right (by show 66 ≤ 66 + h; omega), show 66 + h - ly_D.length = h from by show 66 + h - 66 = h; omega]
            exact hq)
          dsimp only at this
          rw [ly_pl2 (by omega), show 66 + h - 66 = h from by omega] at this
          exact this
        · have l := List.all_eq_true.mp ly_RI_ok q hq
          rw [Bool.and_eq_true, Bool.and_eq_true, Bool.and_eq_true, Bool.and_eq_true, Bool.and_eq_true] at l
          obtain ⟨l1, l2, l3, l4, l5, l6⟩ := l
          have l1 := Nat.le_of_ble_eq_true l1
          have l3 := Nat.le_of_ble_eq_true l3
          have h := (k3.2.2.2.1 q (List.mem_append_right _ (List.mem_cons_of_mem _ hq))).2.2
          dsimp only at h
          rw [ly_lw0 l5, ly_pl2 l1] at h
          rw [h]
          unfold sx_rq
          rw [if_neg (by omega)]
          show some (ly_pl pl a (q.2 - 1)) = _
          rw [ly_pl2 (by omega), show q.2 - 1 - 66 = q.2 - 67 from by omega]
        · have h := (k3.2.2.1 ((66, (6, [])), (0, [(1, 1)])) (List.mem_append_right _ (List.Mem.head _))).2
          dsimp only at h
          rw [sx_c_e, sx_s_e, hr' 1 (by omega)] at h
          unfold sx_rd at h
          rw [if_neg (by decide), if_neg (by decide)] at h
          dsimp only at h
          rw [ly_pl2 (by decide)] at h
          show (nt_I M' a 6).toInt = (if k' = k' then v 1 else xi k')
          rw [if_pos rfl]
          exact h
      · rcases p7 k' hk' with c | ⟨a', d1, d2, d3, d4, d5, d6⟩
        · exact Or.inl c
        · have out : ∀ h, h < 17 → ∀ g, g < 83 → a' + h ≠ ly_pl pl a g := by
            intro h hh g hg e2
            by_cases c : g < 66
            · rw [ly_pl1 c] at e2
              have := p1 g c
              omega
            · rw [ly_pl2 (by omega)] at e2
              have t1 := d5 h hh
              have t2 := c5 (g - 66) (by omega)
              rw [e2, t2] at t1
              exact e t1.symm
          refine Or.inr ⟨a', d1, d2, d3, d4, d5, ?_⟩
          show ly_im a' (if k' = k then v 1 else xi k') M'
          rw [if_neg e]
          exact ly_im_fr f1 f3 f4 (fun h hh => (f5 _ (out h hh)).1) (fun h hh => (f5 _ (out h hh)).2) d6
    · obtain ⟨b, d1, d2, d3, d4, d5, d6⟩ := p8 u hu
      have e23 := f6 23 u (Or.inl rfl)
      rw [ly_pl1 (by decide)] at e23
      rw [e23, f1]
      have out : ∀ h, h < 2 → ∀ g, g < 83 → b + h ≠ ly_pl pl a g := by
        intro h hh g hg e2
        by_cases c : g < 66
        · rw [ly_pl1 c] at e2
          have := p1 g c
          omega
        · rw [ly_pl2 (by omega)] at e2
          have t2 := c5 (g - 66) (by omega)
          rw [← e2] at t2
          have t1 : T (b + h) = 4 + u := by
            rcases (by omega : h = 0 ∨ h = 1) with rfl | rfl
            · exact d4
            · exact d5
          omega
      exact ⟨b, d1, d2, d3, d4, d5, ly_ru_fr f1 f3 f4 (fun h hh => (f5 _ (out h hh)).1) (f5 b (out 0 (by omega))).2 d6⟩
/-- the class: back to an image that is there -/
theorem ly_backC {X : nt_X} {K : sx_K} {pl : Nat → Nat} {v mk xi : Nat → Int} {M : nt_M} {d k : Nat} {mo : List (Nat × Int × Int)} (hK : sx_KOK X (sx_tbs, sx_gps) K) (hKe : K = (128, 3, ly_D ++ ly_ED, (mo, []), [(2, 16, (0, [])), (0, 0, ((k : Int), []))], (ly_C ++ [((66, (6, [])), (0, [(11, 1)]))], ly_R ++ (((65, ((k : Int), [])), 67) :: ly_RI), (ly_b ++ [(11, -2147483648, 2147483647)], []), 12), [(some (0, 0, (0, [(12, 1)])), ([((4, (9, [])), (0, [(0, 1)])), ((31, (6, [])), (0, [(11, 1)])), ((16, (4, [])), (0, [(2, 1)])), ((15, (0, [])), (0, [(3, 1)])), ((15, (1, [])), (0, [(4, 1)])), ((15, (2, [])), (0, [(5, 1)])), ((15, (3, [])), (0, [(6, 1)])), ((14, (9, [])), (0, [(7, 1)])), ((14, (221, [])), (0, [(8, 1)])), ((14, (433, [])), (0, [(9, 1)])), ((14, (645, [])), (0, [(10, 1)])), ((100, (10000, [])), (1, []))] ++ [((66, (6, [])), (0, [(11, 1)]))], ly_R ++ (((65, ((k : Int), [])), 67) :: ly_RI), ([(12, -2147483648, 2147483647)], []), 13))])) (hmo : mo.all (lq_b 66) = true) (hk : k < 4) (hd : 3 ≤ d) (hB : ly_B pl v M) (hS : ly_S pl mk xi (v 2) M) (hm : mk k = 1) : ∃ (y : Int32) (M' : nt_M), nt_ev X d 128 [.ref (pl 16), .int (nI k)] M (some (.int y), M') ∧ ly_B pl (fun s => if s = 1 then xi k else v s) M' ∧ ly_fs pl M M' := by
  obtain ⟨⟨p1, p2, p3, p4⟩, ⟨p5, p6⟩, T, p7, p8⟩ := hS
  rcases p7 k hk with ⟨_, c⟩ | ⟨a, c1, c2, c3, c4, c5, c6⟩
  · omega
  obtain ⟨r, hr, h11⟩ : ∃ r : Nat → Int, (∀ s, s < 11 → r s = v s) ∧ r 11 = xi k := ⟨fun s => if s = 11 then xi k else v s, fun s hs => if_neg (by omega), if_pos rfl⟩
  have hlen : (sx_KE (sx_tbs, sx_gps) K).2.1.length = 83 := by rw [hKe]; rfl
  have hij : sx_ij (sx_KE (sx_tbs, sx_gps) K) (ly_pl pl a) := ly_pij p1 c3 hB.1
  have hon := ly_app hKe hB (fun h hh => ly_pl1 hh) hr hij (ly_hpI c6) (ly_ecI hlen h11 c6) (ly_erI hlen c1 c6) (ly_oba (ly_obr hr (ly_ob hB)) (ly_obI (x := nt_I M a 6) (h11.trans c6.2.2.symm))) ly_oc0
  subst hKe
  obtain ⟨o, k1, p, hp, r', k2, k3⟩ := ly_run hK hd (vs := [.ref (pl 16), .int (nI k)]) ⟨by show Value.ref (pl 16) = .ref (ly_pl pl a 16); rw [ly_pl1 (by decide)], ⟨nI k, rfl, by rw [nI_toInt (by omega)]; exact (sx_c_e r k).symm⟩, trivial⟩ hon
  rw [List.mem_singleton.mp hp] at k2 k3
  obtain ⟨ov, M'⟩ := o
  cases ov with
  | none => exact k2.elim
  | some w =>
    obtain ⟨y, rfl, hy⟩ := k2
    have hr' : ∀ s, s < 12 → r' s = r s := fun s hs => k3.2.2.2.2.2.1 s hs
    have hs : ∀ s, s < 11 → r' s = v s := fun s hs => (hr' s (by omega)).trans (hr s hs)
    have fr := ly_fsm (by show 66 ≤ 83; omega) hij hmo rfl k3.2.2.2.2.2.2
    have fr : ly_fs pl M M' := by
      obtain ⟨⟨f1, f2, f3⟩, f4⟩ := fr
      exact ⟨⟨f1, fun a' ha => f2 a' (fun g hg => by rw [ly_pl1 hg]; exact ha g hg), fun g j hg => by
        have := f3 g j hg
        rw [ly_pl1 (by omega)] at this
        exact this⟩, lq_Tpl f4⟩
    exact ⟨y, M', k1, ly_bk (ed := ly_ED) rfl rfl (fun h hh => ly_pl1 hh) k3 (ly_oi2 (fun h hh => ly_pl1 hh) rfl k3.2.2.1 (ly_e1 (hs 0 (by omega))) (ly_e1 (by rw [hr' 11 (by omega), h11]; rfl)) (ly_e1 (hs 2 (by omega))) (ly_e1 (hs 3 (by omega))) (ly_e1 (hs 4 (by omega))) (ly_e1 (hs 5 (by omega))) (ly_e1 (hs 6 (by omega))) (ly_e1 (hs 7 (by omega))) (ly_e1 (hs 8 (by omega))) (ly_e1 (hs 9 (by omega))) (ly_e1 (hs 10 (by omega)))) (ly_or2 (fun h hh => ly_pl1 hh) k3.2.2.2.1), fr⟩
/-- the class: back to an image that is not there -/
theorem ly_backN {X : nt_X} {K : sx_K} {pl : Nat → Nat} {v : Nat → Int} {M : nt_M} {d k : Nat} (hK : sx_KOK X (sx_tbs, sx_gps) K) (hKe : K = (128, 0, ly_D ++ [], ([], []), [(2, 16, (0, [])), (0, 0, ((k : Int), []))], (ly_C ++ [], ly_R ++ [((65, ((k : Int), [])), 0)], (ly_b, []), 11), [(some (0, 0, (0, [(11, 1)])), (ly_C, ly_R ++ [((65, ((k : Int), [])), 0)], ([(11, -2147483648, 2147483647)], []), 12))])) (hk : k < 4) (hB : ly_B pl v M) (hn : nt_R M (pl 65) k = none) : ∃ (y : Int32) (M' : nt_M), nt_ev X d 128 [.ref (pl 16), .int (nI k)] M (some (.int y), M') ∧ ly_B pl v M' ∧ ly_fs pl M M' := by
  have hlen : (sx_KE (sx_tbs, sx_gps) K).2.1.length = 66 := by rw [hKe]; rfl
  have hij : sx_ij (sx_KE (sx_tbs, sx_gps) K) pl := fun a b ha hb e => hB.1 a b (by rw [hlen] at ha; exact ha) (by rw [hlen] at hb; exact hb) e
  have hon := ly_app (r := v) hKe hB (fun _ _ => rfl) (fun _ _ => rfl) hij ly_nil (fun q hq => by cases hq) (fun q hq => by
    rw [List.mem_singleton.mp hq]
    refine ⟨⟨by rw [hlen]; show 65 < 66; decide, by rw [hlen]; show 0 ≤ 66; decide⟩, by dsimp only; rw [sx_c_e]; omega, ?_⟩
    dsimp only
    rw [sx_c_e, show ((k : Int)).toNat = k from by omega, hn]
    rfl) (ly_ob hB) ly_oc0
  subst hKe
  obtain ⟨o, k1, p, hp, r', k2, k3⟩ := ly_run hK (Nat.zero_le d) (vs := [.ref (pl 16), .int (nI k)]) ⟨rfl, ⟨nI k, rfl, by rw [nI_toInt (by omega)]; exact (sx_c_e v k).symm⟩, trivial⟩ hon
  rw [List.mem_singleton.mp hp] at k2 k3
  obtain ⟨ov, M'⟩ := o
  cases ov with
  | none => exact k2.elim
  | some w =>
    obtain ⟨y, rfl, hy⟩ := k2
    have hr' : ∀ s, s < 11 → r' s = v s := fun s hs => k3.2.2.2.2.2.1 s hs
    exact ⟨y, M', k1, ly_bk (ed := []) rfl rfl (fun _ _ => rfl) k3 (ly_oiC (more := []) (fun _ _ => rfl) rfl k3.2.2.1 hr') (ly_or2 (fun _ _ => rfl) k3.2.2.2.1), ly_fsm (Nat.le_of_eq rfl) hij rfl rfl k3.2.2.2.2.2.2⟩
theorem ly_imgR0 {X : nt_X} {pl : Nat → Nat} {v : Nat → Int} {M : nt_M} {d : Nat} (hd : 1 ≤ d) (hB : ly_B pl v M) : ∃ (y : Int32) (M' : nt_M), nt_ev X d 234 [.ref (pl 0), .int (nI 0)] M (some (.int y), M') ∧ ly_B pl (fun s => if s = 3 then 1 else if s = 7 then v 0 else v s) M' ∧ ly_fs pl M M' := by
  have hij := ly_ij (K := kk_w_image0) rfl hB
  have hon := ly_app (K := kk_w_image0) (r := v) (ed := []) (ec := []) (er := []) rfl hB (fun _ _ => rfl) (fun _ _ => rfl) hij ly_nil (fun q hq => by cases hq) (fun q hq => by cases hq) (ly_ob hB) ly_oc0
  obtain ⟨o, k1, p, hp, r', k2, k3⟩ := ly_run (ko_w_image0 X) hd (vs := [.ref (pl 0), .int (nI 0)]) ⟨rfl, ⟨nI 0, rfl, (sx_c_e v 0).symm⟩, trivial⟩ hon
  rw [List.mem_singleton.mp hp] at k2 k3
  obtain ⟨ov, M'⟩ := o
  cases ov with
  | none => exact k2.elim
  | some w =>
    obtain ⟨y, rfl, hy⟩ := k2
    have hs : ∀ s, s < 11 → r' s = v s := fun s hs => k3.2.2.2.2.2.1 s hs
    exact ⟨y, M', k1, ly_bk (ed := []) rfl rfl (fun _ _ => rfl) k3 (ly_oi2 (more := []) (fun _ _ => rfl) rfl k3.2.2.1 (ly_e1 (hs 0 (by omega))) (ly_e1 (hs 1 (by omega))) (ly_e1 (hs 2 (by omega))) (sx_c_e _ _) (ly_e1 (hs 4 (by omega))) (ly_e1 (hs 5 (by omega))) (ly_e1 (hs 6 (by omega))) (ly_e1 (hs 0 (by omega))) (ly_e1 (hs 8 (by omega))) (ly_e1 (hs 9 (by omega))) (ly_e1 (hs 10 (by omega)))) (ly_or2 (more := []) (fun _ _ => rfl) k3.2.2.2.1), ly_fsm (Nat.le_of_eq rfl) hij (by decide +kernel) (by decide +kernel) k3.2.2.2.2.2.2⟩
theorem ly_backR0 {X : nt_X} {pl : Nat → Nat} {v : Nat → Int} {M : nt_M} {d : Nat} (hd : 1 ≤ d) (hB : ly_B pl v M) (hm : v 3 = 1) : ∃ (y : Int32) (M' : nt_M), nt_ev X d 235 [.ref (pl 0), .int (nI 0)] M (some (.int y), M') ∧ ly_B pl (fun s => if s = 0 then v 7 else v s) M' ∧ ly_fs pl M M' := by
  have hij := ly_ij (K := kk_w_back0) rfl hB
  have hon := ly_app (K := kk_w_back0) (r := v) (ed := []) (ec := []) (er := []) rfl hB (fun _ _ => rfl) (fun _ _ => rfl) hij ly_nil (fun q hq => by cases hq) (fun q hq => by cases hq) (ly_oba (ly_ob1 (by omega)) (ly_ob hB)) ly_oc0
  obtain ⟨o, k1, p, hp, r', k2, k3⟩ := ly_run (ko_w_back0 X) hd (vs := [.ref (pl 0), .int (nI 0)]) ⟨rfl, ⟨nI 0, rfl, (sx_c_e v 0).symm⟩, trivial⟩ hon
  rw [List.mem_singleton.mp hp] at k2 k3
  obtain ⟨ov, M'⟩ := o
  cases ov with
  | none => exact k2.elim
  | some w =>
    obtain ⟨y, rfl, hy⟩ := k2
    have hs : ∀ s, s < 11 → r' s = v s := fun s hs => k3.2.2.2.2.2.1 s hs
    exact ⟨y, M', k1, ly_bk (ed := []) rfl rfl (fun _ _ => rfl) k3 (ly_oi2 (more := []) (fun _ _ => rfl) rfl k3.2.2.1 (ly_e1 (hs 7 (by omega))) (ly_e1 (hs 1 (by omega))) (ly_e1 (hs 2 (by omega))) (ly_e1 (hs 3 (by omega))) (ly_e1 (hs 4 (by omega))) (ly_e1 (hs 5 (by omega))) (ly_e1 (hs 6 (by omega))) (ly_e1 (hs 7 (by omega))) (ly_e1 (hs 8 (by omega))) (ly_e1 (hs 9 (by omega))) (ly_e1 (hs 10 (by omega)))) (ly_or2 (more := []) (fun _ _ => rfl) k3.2.2.2.1), ly_fsm (Nat.le_of_eq rfl) hij (by decide +kernel) (by decide +kernel) k3.2.2.2.2.2.2⟩
theorem ly_imgR1 {X : nt_X} {pl : Nat → Nat} {v : Nat → Int} {M : nt_M} {d : Nat} (hd : 1 ≤ d) (hB : ly_B pl v M) : ∃ (y : Int32) (M' : nt_M), nt_ev X d 234 [.ref (pl 0), .int (nI 1)] M (some (.int y), M') ∧ ly_B pl (fun s => if s = 4 then 1 else if s = 8 then v 0 else v s) M' ∧ ly_fs pl M M' := by
  have hij := ly_ij (K := kk_w_image1) rfl hB
  have hon := ly_app (K := kk_w_image1) (r := v) (ed := []) (ec := []) (er := []) rfl hB (fun _ _ => rfl) (fun _ _ => rfl) hij ly_nil (fun q hq => by cases hq) (fun q hq => by cases hq) (ly_ob hB) ly_oc0
  obtain ⟨o, k1, p, hp, r', k2, k3⟩ := ly_run (ko_w_image1 X) hd (vs := [.ref (pl 0), .int (nI 1)]) ⟨rfl, ⟨nI 1, rfl, (sx_c_e v 1).symm⟩, trivial⟩ hon
  rw [List.mem_singleton.mp hp] at k2 k3
  obtain ⟨ov, M'⟩ := o
  cases ov with
  | none => exact k2.elim
  | some w =>
    obtain ⟨y, rfl, hy⟩ := k2
    have hs : ∀ s, s < 11 → r' s = v s := fun s hs => k3.2.2.2.2.2.1 s hs
    exact ⟨y, M', k1, ly_bk (ed := []) rfl rfl (fun _ _ => rfl) k3 (ly_oi2 (more := []) (fun _ _ => rfl) rfl k3.2.2.1 (ly_e1 (hs 0 (by omega))) (ly_e1 (hs 1 (by omega))) (ly_e1 (hs 2 (by omega))) (ly_e1 (hs 3 (by omega))) (sx_c_e _ _) (ly_e1 (hs 5 (by omega))) (ly_e1 (hs 6 (by omega))) (ly_e1 (hs 7 (by omega))) (ly_e1 (hs 0 (by omega))) (ly_e1 (hs 9 (by omega))) (ly_e1 (hs 10 (by omega)))) (ly_or2 (more := []) (fun _ _ => rfl) k3.2.2.2.1), ly_fsm (Nat.le_of_eq rfl) hij (by decide +kernel) (by decide +kernel) k3.2.2.2.2.2.2⟩
theorem ly_backR1 {X : nt_X} {pl : Nat → Nat} {v : Nat → Int} {M : nt_M} {d : Nat} (hd : 1 ≤ d) (hB : ly_B pl v M) (hm : v 4 = 1) : ∃ (y : Int32) (M' : nt_M), nt_ev X d 235 [.ref (pl 0), .int (nI 1)] M (some (.int y), M') ∧ ly_B pl (fun s => if s = 0 then v 8 else v s) M' ∧ ly_fs pl M M' := by
  have hij := ly_ij (K := kk_w_back1) rfl hB
  have hon := ly_app (K := kk_w_back1) (r := v) (ed := []) (ec := []) (er := []) rfl hB (fun _ _ => rfl) (fun _ _ => rfl) hij ly_nil (fun q hq => by cases hq) (fun q hq => by cases hq) (ly_oba (ly_ob1 (by omega)) (ly_ob hB)) ly_oc0
  obtain ⟨o, k1, p, hp, r', k2, k3⟩ := ly_run (ko_w_back1 X) hd (vs := [.ref (pl 0), .int (nI 1)]) ⟨rfl, ⟨nI 1, rfl, (sx_c_e v 1).symm⟩, trivial⟩ hon
  rw [List.mem_singleton.mp hp] at k2 k3
  obtain ⟨ov, M'⟩ := o
  cases ov with
  | none => exact k2.elim
  | some w =>
    obtain ⟨y, rfl, hy⟩ := k2
    have hs : ∀ s, s < 11 → r' s = v s := fun s hs => k3.2.2.2.2.2.1 s hs
    exact ⟨y, M', k1, ly_bk (ed := []) rfl rfl (fun _ _ => rfl) k3 (ly_oi2 (more := []) (fun _ _ => rfl) rfl k3.2.2.1 (ly_e1 (hs 8 (by omega))) (ly_e1 (hs 1 (by omega))) (ly_e1 (hs 2 (by omega))) (ly_e1 (hs 3 (by omega))) (ly_e1 (hs 4 (by omega))) (ly_e1 (hs 5 (by omega))) (ly_e1 (hs 6 (by omega))) (ly_e1 (hs 7 (by omega))) (ly_e1 (hs 8 (by omega))) (ly_e1 (hs 9 (by omega))) (ly_e1 (hs 10 (by omega)))) (ly_or2 (more := []) (fun _ _ => rfl) k3.2.2.2.1), ly_fsm (Nat.le_of_eq rfl) hij (by decide +kernel) (by decide +kernel) k3.2.2.2.2.2.2⟩
theorem ly_imgR2 {X : nt_X} {pl : Nat → Nat} {v : Nat → Int} {M : nt_M} {d : Nat} (hd : 1 ≤ d) (hB : ly_B pl v M) : ∃ (y : Int32) (M' : nt_M), nt_ev X d 234 [.ref (pl 0), .int (nI 2)] M (some (.int y), M') ∧ ly_B pl (fun s => if s = 5 then 1 else if s = 9 then v 0 else v s) M' ∧ ly_fs pl M M' := by
  have hij := ly_ij (K := kk_w_image2) rfl hB
  have hon := ly_app (K := kk_w_image2) (r := v) (ed := []) (ec := []) (er := []) rfl hB (fun _ _ => rfl) (fun _ _ => rfl) hij ly_nil (fun q hq => by cases hq) (fun q hq => by cases hq) (ly_ob hB) ly_oc0
  obtain ⟨o, k1, p, hp, r', k2, k3⟩ := ly_run (ko_w_image2 X) hd (vs := [.ref (pl 0), .int (nI 2)]) ⟨rfl, ⟨nI 2, rfl, (sx_c_e v 2).symm⟩, trivial⟩ hon
  rw [List.mem_singleton.mp hp] at k2 k3
  obtain ⟨ov, M'⟩ := o
  cases ov with
  | none => exact k2.elim
  | some w =>
    obtain ⟨y, rfl, hy⟩ := k2
    have hs : ∀ s, s < 11 → r' s = v s := fun s hs => k3.2.2.2.2.2.1 s hs
    exact ⟨y, M', k1, ly_bk (ed := []) rfl rfl (fun _ _ => rfl) k3 (ly_oi2 (more := []) (fun _ _ => rfl) rfl k3.2.2.1 (ly_e1 (hs 0 (by omega))) (ly_e1 (hs 1 (by omega))) (ly_e1 (hs 2 (by omega))) (ly_e1 (hs 3 (by omega))) (ly_e1 (hs 4 (by omega))) (sx_c_e _ _) (ly_e1 (hs 6 (by omega))) (ly_e1 (hs 7 (by omega))) (ly_e1 (hs 8 (by omega))) (ly_e1 (hs 0 (by omega))) (ly_e1 (hs 10 (by omega)))) (ly_or2 (more := []) (fun _ _ => rfl) k3.2.2.2.1), ly_fsm (Nat.le_of_eq rfl) hij (by decide +kernel) (by decide +kernel) k3.2.2.2.2.2.2⟩
theorem ly_backR2 {X : nt_X} {pl : Nat → Nat} {v : Nat → Int} {M : nt_M} {d : Nat} (hd : 1 ≤ d) (hB : ly_B pl v M) (hm : v 5 = 1) : ∃ (y : Int32) (M' : nt_M), nt_ev X d 235 [.ref (pl 0), .int (nI 2)] M (some (.int y), M') ∧ ly_B pl (fun s => if s = 0 then v 9 else v s) M' ∧ ly_fs pl M M' := by
  have hij := ly_ij (K := kk_w_back2) rfl hB
  have hon := ly_app (K := kk_w_back2) (r := v) (ed := []) (ec := []) (er := []) rfl hB (fun _ _ => rfl) (fun _ _ => rfl) hij ly_nil (fun q hq => by cases hq) (fun q hq => by cases hq) (ly_oba (ly_ob1 (by omega)) (ly_ob hB)) ly_oc0
  obtain ⟨o, k1, p, hp, r', k2, k3⟩ := ly_run (ko_w_back2 X) hd (vs := [.ref (pl 0), .int (nI 2)]) ⟨rfl, ⟨nI 2, rfl, (sx_c_e v 2).symm⟩, trivial⟩ hon
  rw [List.mem_singleton.mp hp] at k2 k3
  obtain ⟨ov, M'⟩ := o
  cases ov with
  | none => exact k2.elim
  | some w =>
    obtain ⟨y, rfl, hy⟩ := k2
    have hs : ∀ s, s < 11 → r' s = v s := fun s hs => k3.2.2.2.2.2.1 s hs
    exact ⟨y, M', k1, ly_bk (ed := []) rfl rfl (fun _ _ => rfl) k3 (ly_oi2 (more := []) (fun _ _ => rfl) rfl k3.2.2.1 (ly_e1 (hs 9 (by omega))) (ly_e1 (hs 1 (by omega))) (ly_e1 (hs 2 (by omega))) (ly_e1 (hs 3 (by omega))) (ly_e1 (hs 4 (by omega))) (ly_e1 (hs 5 (by omega))) (ly_e1 (hs 6 (by omega))) (ly_e1 (hs 7 (by omega))) (ly_e1 (hs 8 (by omega))) (ly_e1 (hs 9 (by omega))) (ly_e1 (hs 10 (by omega)))) (ly_or2 (more := []) (fun _ _ => rfl) k3.2.2.2.1), ly_fsm (Nat.le_of_eq rfl) hij (by decide +kernel) (by decide +kernel) k3.2.2.2.2.2.2⟩
theorem ly_imgR3 {X : nt_X} {pl : Nat → Nat} {v : Nat → Int} {M : nt_M} {d : Nat} (hd : 1 ≤ d) (hB : ly_B pl v M) : ∃ (y : Int32) (M' : nt_M), nt_ev X d 234 [.ref (pl 0), .int (nI 3)] M (some (.int y), M') ∧ ly_B pl (fun s => if s = 6 then 1 else if s = 10 then v 0 else v s) M' ∧ ly_fs pl M M' := by
  have hij := ly_ij (K := kk_w_image3) rfl hB
  have hon := ly_app (K := kk_w_image3) (r := v) (ed := []) (ec := []) (er := []) rfl hB (fun _ _ => rfl) (fun _ _ => rfl) hij ly_nil (fun q hq => by cases hq) (fun q hq => by cases hq) (ly_ob hB) ly_oc0
  obtain ⟨o, k1, p, hp, r', k2, k3⟩ := ly_run (ko_w_image3 X) hd (vs := [.ref (pl 0), .int (nI 3)]) ⟨rfl, ⟨nI 3, rfl, (sx_c_e v 3).symm⟩, trivial⟩ hon
  rw [List.mem_singleton.mp hp] at k2 k3
  obtain ⟨ov, M'⟩ := o
  cases ov with
  | none => exact k2.elim
  | some w =>
    obtain ⟨y, rfl, hy⟩ := k2
    have hs : ∀ s, s < 11 → r' s = v s := fun s hs => k3.2.2.2.2.2.1 s hs
    exact ⟨y, M', k1, ly_bk (ed := []) rfl rfl (fun _ _ => rfl) k3 (ly_oi2 (more := []) (fun _ _ => rfl) rfl k3.2.2.1 (ly_e1 (hs 0 (by omega))) (ly_e1 (hs 1 (by omega))) (ly_e1 (hs 2 (by omega))) (ly_e1 (hs 3 (by omega))) (ly_e1 (hs 4 (by omega))) (ly_e1 (hs 5 (by omega))) (sx_c_e _ _) (ly_e1 (hs 7 (by omega))) (ly_e1 (hs 8 (by omega))) (ly_e1 (hs 9 (by omega))) (ly_e1 (hs 0 (by omega)))) (ly_or2 (more := []) (fun _ _ => rfl) k3.2.2.2.1), ly_fsm (Nat.le_of_eq rfl) hij (by decide +kernel) (by decide +kernel) k3.2.2.2.2.2.2⟩
theorem ly_backR3 {X : nt_X} {pl : Nat → Nat} {v : Nat → Int} {M : nt_M} {d : Nat} (hd : 1 ≤ d) (hB : ly_B pl v M) (hm : v 6 = 1) : ∃ (y : Int32) (M' : nt_M), nt_ev X d 235 [.ref (pl 0), .int (nI 3)] M (some (.int y), M') ∧ ly_B pl (fun s => if s = 0 then v 10 else v s) M' ∧ ly_fs pl M M' := by
  have hij := ly_ij (K := kk_w_back3) rfl hB
  have hon := ly_app (K := kk_w_back3) (r := v) (ed := []) (ec := []) (er := []) rfl hB (fun _ _ => rfl) (fun _ _ => rfl) hij ly_nil (fun q hq => by cases hq) (fun q hq => by cases hq) (ly_oba (ly_ob1 (by omega)) (ly_ob hB)) ly_oc0
  obtain ⟨o, k1, p, hp, r', k2, k3⟩ := ly_run (ko_w_back3 X) hd (vs := [.ref (pl 0), .int (nI 3)]) ⟨rfl, ⟨nI 3, rfl, (sx_c_e v 3).symm⟩, trivial⟩ hon
  rw [List.mem_singleton.mp hp] at k2 k3
  obtain ⟨ov, M'⟩ := o
  cases ov with
  | none => exact k2.elim
  | some w =>
    obtain ⟨y, rfl, hy⟩ := k2
    have hs : ∀ s, s < 11 → r' s = v s := fun s hs => k3.2.2.2.2.2.1 s hs
    exact ⟨y, M', k1, ly_bk (ed := []) rfl rfl (fun _ _ => rfl) k3 (ly_oi2 (more := []) (fun _ _ => rfl) rfl k3.2.2.1 (ly_e1 (hs 10 (by omega))) (ly_e1 (hs 1 (by omega))) (ly_e1 (hs 2 (by omega))) (ly_e1 (hs 3 (by omega))) (ly_e1 (hs 4 (by omega))) (ly_e1 (hs 5 (by omega))) (ly_e1 (hs 6 (by omega))) (ly_e1 (hs 7 (by omega))) (ly_e1 (hs 8 (by omega))) (ly_e1 (hs 9 (by omega))) (ly_e1 (hs 10 (by omega)))) (ly_or2 (more := []) (fun _ _ => rfl) k3.2.2.2.1), ly_fsm (Nat.le_of_eq rfl) hij (by decide +kernel) (by decide +kernel) k3.2.2.2.2.2.2⟩
end
section
/-! makers: cells made one behind the other -/
def ly_op (n : Nat) (M : nt_M) (o : Nat × Nat × Nat × Nat) : nt_M := match o.1 with
  | 0 => nt_nw M o.2.1 o.2.2.1 o.2.2.2
  | _ => nt_sR M (n + o.2.1) o.2.2.1 (some (n + o.2.2.2))
/-- the last one first -/
def ly_fo (n : Nat) (M : nt_M) : List (Nat × Nat × Nat × Nat) → nt_M
  | [] => M
  | o :: t => ly_op n (ly_fo n M t) o
def ly_cnt : List (Nat × Nat × Nat × Nat) → Nat
  | [] => 0
  | o :: t => match o.1 with
    | 0 => ly_cnt t + 1
    | _ => ly_cnt t
theorem ly_fo_n {n : Nat} {M : nt_M} : ∀ l, nt_n (ly_fo n M l) = nt_n M + ly_cnt l
  | [] => rfl
  | o :: t => by
    have ih := ly_fo_n (n := n) (M := M) t
    obtain ⟨a, o⟩ := o
    cases a with
    | zero => show nt_n (ly_fo n M t) + 1 = nt_n M + (ly_cnt t + 1); omega
    | succ a => exact ih
def ly_kl : List (Nat × Nat × Nat × Nat) → Nat → Option (Nat × Nat)
  | [], _ => none
  | o :: t, i => match o.1 with
    | 0 => if i = ly_cnt t then some (o.2.1, o.2.2.1) else ly_kl t i
    | _ => ly_kl t i
theorem ly_fo_k {n : Nat} {M : nt_M} {i : Nat} {q : Nat × Nat} (hn : nt_n M = n) : ∀ {l}, ly_kl l i = some q → nt_k (ly_fo n M l) (n + i) = q.1 ∧ nt_l (ly_fo n M l) (n + i) = q.2
  | [], h => by cases h
  | o :: t, h => by
    have ih := fun h => ly_fo_k (n := n) (M := M) (i := i) (q := q) hn (l := t) h
    have hc := ly_fo_n (n := n) (M := M) t
    obtain ⟨a, o⟩ := o
    cases a with
    | zero =>
      have h : (if i = ly_cnt t then some (o.1, o.2.1) else ly_kl t i) = some q := h
      show (if n + i = nt_n (ly_fo n M t) then o.1 else nt_k (ly_fo n M t) (n + i)) = q.1 ∧ (if n + i = nt_n (ly_fo n M t) then o.2.1 else nt_l (ly_fo n M t) (n + i)) = q.2
      by_cases e : i = ly_cnt t
      · rw [if_pos e] at h
        cases h
        rw [if_pos (by omega), if_pos (by omega)]
        exact ⟨rfl, rfl⟩
      · rw [if_neg e] at h
        rw [if_neg (by omega), if_neg (by omega)]
        exact ih h
    | succ a => exact ih h
/-- what was there stays -/
theorem ly_fo_old {n : Nat} {M : nt_M} {p : Nat} (hn : nt_n M = n) (hp : p < n) : ∀ l, nt_k (ly_fo n M l) p = nt_k M p ∧ nt_l (ly_fo n M l) p = nt_l M p ∧ nt_I (ly_fo n M l) p = nt_I M p ∧ nt_R (ly_fo n M l) p = nt_R M p
  | [] => ⟨rfl, rfl, rfl, rfl⟩
  | o :: t => by
    have ih := ly_fo_old (n := n) (M := M) (p := p) hn hp t
    have hc := ly_fo_n (n := n) (M := M) t
    obtain ⟨a, o⟩ := o
    cases a with
    | zero =>
      show (if p = nt_n (ly_fo n M t) then o.1 else nt_k (ly_fo n M t) p) = _ ∧ (if p = nt_n (ly_fo n M t) then o.2.1 else nt_l (ly_fo n M t) p) = _ ∧ (if p = nt_n (ly_fo n M t) then (fun _ => 0) else nt_I (ly_fo n M t) p) = _ ∧ (if p = nt_n (ly_fo n M t) then (fun _ => none) else nt_R (ly_fo n M t) p) = _
      rw [if_neg (by omega), if_neg (by omega), if_neg (by omega), if_neg (by omega)]
      exact ih
    | succ a =>
      refine ⟨ih.1, ih.2.1, ih.2.2.1, ?_⟩
      funext j
      show (if p = n + o.1 then (if j = o.2.1 then some (n + o.2.2) else nt_R (ly_fo n M t) p j) else nt_R (ly_fo n M t) p j) = _
      rw [if_neg (by omega), ih.2.2.2]
theorem ly_fo_I {n : Nat} {M : nt_M} {i : Nat} (hn : nt_n M = n) : ∀ l, i < ly_cnt l → ∀ j, nt_I (ly_fo n M l) (n + i) j = 0
  | [], h => absurd h (Nat.not_lt_zero _)
  | o :: t, h => by
    have ih := ly_fo_I (n := n) (M := M) (i := i) hn t
    have hc := ly_fo_n (n := n) (M := M) t
    obtain ⟨a, o⟩ := o
    cases a with
    | zero =>
      have h : i < ly_cnt t + 1 := h
      intro j
      show (if n + i = nt_n (ly_fo n M t) then (fun _ => (0 : Int32)) else nt_I (ly_fo n M t) (n + i)) j = 0
      by_cases e : i = ly_cnt t
      · rw [if_pos (by omega)]
      · rw [if_neg (by omega)]
        exact ih (by omega) j
    | succ a => exact ih h
def ly_rl : List (Nat × Nat × Nat × Nat) → Nat → Nat → Option Nat
  | [], _, _ => none
  | o :: t, i, j => match o.1 with
    | 0 => if i = ly_cnt t then none else ly_rl t i j
    | _ => if i = o.2.1 ∧ j = o.2.2.1 then some o.2.2.2 else ly_rl t i j
theorem ly_fo_R {n : Nat} {M : nt_M} {i : Nat} (hn : nt_n M = n) : ∀ l, i < ly_cnt l → ∀ j, nt_R (ly_fo n M l) (n + i) j = (ly_rl l i j).map (fun b => n + b)
  | [], h => absurd h (Nat.not_lt_zero _)
  | o :: t, h => by
    have ih := ly_fo_R (n := n) (M := M) (i := i) hn t
    have hc := ly_fo_n (n := n) (M := M) t
    obtain ⟨a, o⟩ := o
    intro j
    cases a with
    | zero =>
      have h : i < ly_cnt t + 1 := h
      show (if n + i = nt_n (ly_fo n M t) then (fun _ => (none : Option Nat)) else nt_R (ly_fo n M t) (n + i)) j = (if i = ly_cnt t then none else ly_rl t i j).map _
      by_cases e : i = ly_cnt t
      · rw [if_pos (by omega), if_pos e]
        rfl
      · rw [if_neg (by omega), if_neg e]
        exact ih (by omega) j
    | succ a =>
      show (if n + i = n + o.1 then (if j = o.2.1 then some (n + o.2.2) else nt_R (ly_fo n M t) (n + i) j) else nt_R (ly_fo n M t) (n + i) j) = (if i = o.1 ∧ j = o.2.1 then some o.2.2 else ly_rl t i j).map _
      by_cases e : i = o.1
      · rw [if_pos (by omega)]
        by_cases e2 : j = o.2.1
        · rw [if_pos e2, if_pos ⟨e, e2⟩]
          rfl
        · rw [if_neg e2, if_neg (fun h => e2 h.2)]
          exact ih h j
      · rw [if_neg (by omega), if_neg (fun h => e h.1)]
        exact ih h j
def ly_zs : List (Nat × Nat × Nat × Nat) → Nat
  | [] => 0
  | o :: t => match o.1 with
    | 0 => ly_zs t + o.2.2.2
    | _ => ly_zs t
theorem ly_fo_z {n : Nat} {M : nt_M} : ∀ l, nt_z (ly_fo n M l) = nt_z M + ly_zs l
  | [] => rfl
  | o :: t => by
    have ih := ly_fo_z (n := n) (M := M) t
    obtain ⟨a, o⟩ := o
    cases a with
    | zero => show nt_z (ly_fo n M t) + o.2.2 = nt_z M + (ly_zs t + o.2.2); omega
    | succ a => exact ih
theorem ly_x_new {X : nt_X} {mi g t i pc c : Nat} {ls : nt_V} {st : List Value} {M : nt_M} (hn : nt_n M = c) (hc : c < nt_sp) (hg : g < 12) : nt_sx X mi g t (.new i) pc ls st M = some (pc + 3, ls, .ref c :: st, nt_nw M g 0 (nt_N g)) := by
  show (if g < 12 ∧ nt_n M < nt_sp then some (pc + 3, ls, Value.ref (nt_n M) :: st, nt_nw M g 0 (nt_N g)) else none) = _
  rw [if_pos ⟨hg, by rw [hn]; exact hc⟩, hn]
theorem ly_x_arr {X : nt_X} {mi g t pc c k : Nat} {ty : ArrayType} {ls : nt_V} {st : List Value} {M : nt_M} {x : Int32} (hn : nt_n M = c) (hc : c < nt_sp) (hk : nt_ak ty < 18) (h0 : ¬ x < 0) (hx : x.toNatClampNeg = k ∧ k ≤ nt_sp) : nt_sx X mi g t (.newarray ty) pc ls (.int x :: st) M = some (pc + 2, ls, .ref c :: st, nt_nw M (nt_ak ty) k k) := by
  show (if nt_ak ty < 18 ∧ nt_n M < nt_sp ∧ ¬ x < 0 ∧ x.toNatClampNeg ≤ nt_sp then some (pc + 2, ls, Value.ref (nt_n M) :: st, nt_nw M (nt_ak ty) x.toNatClampNeg x.toNatClampNeg) else none) = _
  rw [if_pos ⟨hk, by rw [hn]; exact hc, h0, by rw [hx.1]; exact hx.2⟩, hn, hx.1]
theorem ly_x_obj {d pc a : Nat} {ls : nt_V} {st : List Value} {M : nt_M} (hd : 1 ≤ d) (hs : nt_ct st ≤ 8) : nt_nx d 1000 2 pc ls (.ref a :: st) M = some (pc + 3, ls, st, M) := by
  unfold nt_nx
  rw [if_pos ⟨rfl, rfl⟩]
  show (if 1 ≤ d ∧ nt_ct st ≤ 8 then some (pc + 3, ls, st, M) else none) = _
  rw [if_pos ⟨hd, hs⟩]
def ly_so : List (Nat × Nat × Nat × Nat) := [(1, 0, 13, 16), (0, 13, 8, 8), (1, 0, 12, 15), (0, 15, 24, 24), (1, 0, 11, 14), (0, 13, 24, 24), (1, 0, 10, 13), (0, 13, 24, 24), (1, 0, 9, 12), (0, 13, 6, 6), (1, 0, 8, 11), (0, 13, 6, 6), (1, 0, 7, 10), (0, 13, 6, 6), (1, 0, 0, 1), (1, 1, 12, 9), (0, 13, 8, 8), (1, 1, 11, 8), (0, 13, 8, 8), (1, 1, 10, 7), (0, 13, 8, 8), (1, 1, 9, 6), (0, 13, 8, 8), (1, 1, 8, 5), (0, 13, 24, 24), (1, 1, 7, 4), (0, 13, 24, 24), (1, 1, 6, 3), (0, 13, 24, 24), (1, 1, 5, 2), (0, 13, 24, 24), (0, 8, 0, 13), (0, 6, 0, 14)]
theorem ly_mk85 {X : nt_X} {d n : Nat} {M : nt_M} (hn : nt_n M = n) (hb : n + 20 < nt_sp) : nt_ev X (d + 1) 85 [.ref (n + 1)] (ly_fo n M (ly_so.drop 31)) (none, (ly_fo n M (ly_so.drop 15))) := by
  refine nt_rn_b 1 (c' := (1, [(0, .ref (n + 1))], [.ref (n + 1)], (ly_fo n M (ly_so.drop 31)))) rfl ?_
  refine nt_rn_n (g := 1000) (q := 2) (c' := (4, [(0, .ref (n + 1))], [], (ly_fo n M (ly_so.drop 31)))) (e := (1, .invokespecial 3, 1000, 0)) rfl rfl (by decide) (Or.inr (Or.inr ⟨_, rfl, rfl⟩)) (ly_x_obj (by omega) (by decide)) ?_
  refine nt_rn_b 1 (c' := (5, [(0, .ref (n + 1))], [.ref (n + 1)], (ly_fo n M (ly_so.drop 31)))) rfl ?_
  refine nt_rn_b 1 (c' := (7, [(0, .ref (n + 1))], [.int (Int32.ofInt 24), .ref (n + 1)], (ly_fo n M (ly_so.drop 31)))) rfl ?_
  refine nt_rn_s (c' := (9, [(0, .ref (n + 1))], [.ref (n + 2), .ref (n + 1)], (ly_fo n M (ly_so.drop 30)))) (e := (7, .newarray .int, 0, 0)) rfl rfl (ly_x_arr (c := n + 2) (k := 24) (by rw [ly_fo_n, hn]; rfl) (by omega) (by decide) (by decide) (by decide)) ?_
  refine nt_rn_s (c' := (12, [(0, .ref (n + 1))], [], (ly_fo n M (ly_so.drop 29)))) (e := (9, .putfield 9, 805, 0)) rfl rfl (nt_x_put (c := 8) (M' := (ly_fo n M (ly_so.drop 29))) (by rw [ly_fo_n, hn]; show n + 1 < n + 3; omega) (ly_fo_k (i := 1) (q := (8, 0)) (l := ly_so.drop 30) hn rfl).1 rfl rfl) ?_
  refine nt_rn_b 1 (c' := (13, [(0, .ref (n + 1))], [.ref (n + 1)], (ly_fo n M (ly_so.drop 29)))) rfl ?_
  refine nt_rn_b 1 (c' := (15, [(0, .ref (n + 1))], [.int (Int32.ofInt 24), .ref (n + 1)], (ly_fo n M (ly_so.drop 29)))) rfl ?_
  refine nt_rn_s (c' := (17, [(0, .ref (n + 1))], [.ref (n + 3), .ref (n + 1)], (ly_fo n M (ly_so.drop 28)))) (e := (15, .newarray .int, 0, 0)) rfl rfl (ly_x_arr (c := n + 3) (k := 24) (by rw [ly_fo_n, hn]; rfl) (by omega) (by decide) (by decide) (by decide)) ?_
  refine nt_rn_s (c' := (20, [(0, .ref (n + 1))], [], (ly_fo n M (ly_so.drop 27)))) (e := (17, .putfield 15, 806, 0)) rfl rfl (nt_x_put (c := 8) (M' := (ly_fo n M (ly_so.drop 27))) (by rw [ly_fo_n, hn]; show n + 1 < n + 4; omega) (ly_fo_k (i := 1) (q := (8, 0)) (l := ly_so.drop 28) hn rfl).1 rfl rfl) ?_
  refine nt_rn_b 1 (c' := (21, [(0, .ref (n + 1))], [.ref (n + 1)], (ly_fo n M (ly_so.drop 27)))) rfl ?_
  refine nt_rn_b 1 (c' := (23, [(0, .ref (n + 1))], [.int (Int32.ofInt 24), .ref (n + 1)], (ly_fo n M (ly_so.drop 27)))) rfl ?_
  refine nt_rn_s (c' := (25, [(0, .ref (n + 1))], [.ref (n + 4), .ref (n + 1)], (ly_fo n M (ly_so.drop 26)))) (e := (23, .newarray .int, 0, 0)) rfl rfl (ly_x_arr (c := n + 4) (k := 24) (by rw [ly_fo_n, hn]; rfl) (by omega) (by decide) (by decide) (by decide)) ?_
  refine nt_rn_s (c' := (28, [(0, .ref (n + 1))], [], (ly_fo n M (ly_so.drop 25)))) (e := (25, .putfield 18, 807, 0)) rfl rfl (nt_x_put (c := 8) (M' := (ly_fo n M (ly_so.drop 25))) (by rw [ly_fo_n, hn]; show n + 1 < n + 5; omega) (ly_fo_k (i := 1) (q := (8, 0)) (l := ly_so.drop 26) hn rfl).1 rfl rfl) ?_
  refine nt_rn_b 1 (c' := (29, [(0, .ref (n + 1))], [.ref (n + 1)], (ly_fo n M (ly_so.drop 25)))) rfl ?_
  refine nt_rn_b 1 (c' := (31, [(0, .ref (n + 1))], [.int (Int32.ofInt 24), .ref (n + 1)], (ly_fo n M (ly_so.drop 25)))) rfl ?_
  refine nt_rn_s (c' := (33, [(0, .ref (n + 1))], [.ref (n + 5), .ref (n + 1)], (ly_fo n M (ly_so.drop 24)))) (e := (31, .newarray .int, 0, 0)) rfl rfl (ly_x_arr (c := n + 5) (k := 24) (by rw [ly_fo_n, hn]; rfl) (by omega) (by decide) (by decide) (by decide)) ?_
  refine nt_rn_s (c' := (36, [(0, .ref (n + 1))], [], (ly_fo n M (ly_so.drop 23)))) (e := (33, .putfield 21, 808, 0)) rfl rfl (nt_x_put (c := 8) (M' := (ly_fo n M (ly_so.drop 23))) (by rw [ly_fo_n, hn]; show n + 1 < n + 6; omega) (ly_fo_k (i := 1) (q := (8, 0)) (l := ly_so.drop 24) hn rfl).1 rfl rfl) ?_
  refine nt_rn_b 1 (c' := (37, [(0, .ref (n + 1))], [.ref (n + 1)], (ly_fo n M (ly_so.drop 23)))) rfl ?_
  refine nt_rn_b 1 (c' := (39, [(0, .ref (n + 1))], [.int (Int32.ofInt 8), .ref (n + 1)], (ly_fo n M (ly_so.drop 23)))) rfl ?_
  refine nt_rn_s (c' := (41, [(0, .ref (n + 1))], [.ref (n + 6), .ref (n + 1)], (ly_fo n M (ly_so.drop 22)))) (e := (39, .newarray .int, 0, 0)) rfl rfl (ly_x_arr (c := n + 6) (k := 8) (by rw [ly_fo_n, hn]; rfl) (by omega) (by decide) (by decide) (by decide)) ?_
  refine nt_rn_s (c' := (44, [(0, .ref (n + 1))], [], (ly_fo n M (ly_so.drop 21)))) (e := (41, .putfield 24, 809, 0)) rfl rfl (nt_x_put (c := 8) (M' := (ly_fo n M (ly_so.drop 21))) (by rw [ly_fo_n, hn]; show n + 1 < n + 7; omega) (ly_fo_k (i := 1) (q := (8, 0)) (l := ly_so.drop 22) hn rfl).1 rfl rfl) ?_
  refine nt_rn_b 1 (c' := (45, [(0, .ref (n + 1))], [.ref (n + 1)], (ly_fo n M (ly_so.drop 21)))) rfl ?_
  refine nt_rn_b 1 (c' := (47, [(0, .ref (n + 1))], [.int (Int32.ofInt 8), .ref (n + 1)], (ly_fo n M (ly_so.drop 21)))) rfl ?_
  refine nt_rn_s (c' := (49, [(0, .ref (n + 1))], [.ref (n + 7), .ref (n + 1)], (ly_fo n M (ly_so.drop 20)))) (e := (47, .newarray .int, 0, 0)) rfl rfl (ly_x_arr (c := n + 7) (k := 8) (by rw [ly_fo_n, hn]; rfl) (by omega) (by decide) (by decide) (by decide)) ?_
  refine nt_rn_s (c' := (52, [(0, .ref (n + 1))], [], (ly_fo n M (ly_so.drop 19)))) (e := (49, .putfield 27, 810, 0)) rfl rfl (nt_x_put (c := 8) (M' := (ly_fo n M (ly_so.drop 19))) (by rw [ly_fo_n, hn]; show n + 1 < n + 8; omega) (ly_fo_k (i := 1) (q := (8, 0)) (l := ly_so.drop 20) hn rfl).1 rfl rfl) ?_
  refine nt_rn_b 1 (c' := (53, [(0, .ref (n + 1))], [.ref (n + 1)], (ly_fo n M (ly_so.drop 19)))) rfl ?_
  refine nt_rn_b 1 (c' := (55, [(0, .ref (n + 1))], [.int (Int32.ofInt 8), .ref (n + 1)], (ly_fo n M (ly_so.drop 19)))) rfl ?_
  refine nt_rn_s (c' := (57, [(0, .ref (n + 1))], [.ref (n + 8), .ref (n + 1)], (ly_fo n M (ly_so.drop 18)))) (e := (55, .newarray .int, 0, 0)) rfl rfl (ly_x_arr (c := n + 8) (k := 8) (by rw [ly_fo_n, hn]; rfl) (by omega) (by decide) (by decide) (by decide)) ?_
  refine nt_rn_s (c' := (60, [(0, .ref (n + 1))], [], (ly_fo n M (ly_so.drop 17)))) (e := (57, .putfield 30, 811, 0)) rfl rfl (nt_x_put (c := 8) (M' := (ly_fo n M (ly_so.drop 17))) (by rw [ly_fo_n, hn]; show n + 1 < n + 9; omega) (ly_fo_k (i := 1) (q := (8, 0)) (l := ly_so.drop 18) hn rfl).1 rfl rfl) ?_
  refine nt_rn_b 1 (c' := (61, [(0, .ref (n + 1))], [.ref (n + 1)], (ly_fo n M (ly_so.drop 17)))) rfl ?_
  refine nt_rn_b 1 (c' := (63, [(0, .ref (n + 1))], [.int (Int32.ofInt 8), .ref (n + 1)], (ly_fo n M (ly_so.drop 17)))) rfl ?_
  refine nt_rn_s (c' := (65, [(0, .ref (n + 1))], [.ref (n + 9), .ref (n + 1)], (ly_fo n M (ly_so.drop 16)))) (e := (63, .newarray .int, 0, 0)) rfl rfl (ly_x_arr (c := n + 9) (k := 8) (by rw [ly_fo_n, hn]; rfl) (by omega) (by decide) (by decide) (by decide)) ?_
  refine nt_rn_s (c' := (68, [(0, .ref (n + 1))], [], (ly_fo n M (ly_so.drop 15)))) (e := (65, .putfield 33, 812, 0)) rfl rfl (nt_x_put (c := 8) (M' := (ly_fo n M (ly_so.drop 15))) (by rw [ly_fo_n, hn]; show n + 1 < n + 10; omega) (ly_fo_k (i := 1) (q := (8, 0)) (l := ly_so.drop 16) hn rfl).1 rfl rfl) ?_
  exact nt_rn_rv (e := (68, .return_, 0, 0)) rfl rfl rfl rfl
theorem ly_mk63 {X : nt_X} {d n : Nat} {M : nt_M} (hn : nt_n M = n) (hb : n + 20 < nt_sp) : nt_ev X (d + 2) 63 [.ref (n + 0)] (ly_fo n M (ly_so.drop 32)) (none, ly_fo n M ly_so) := by
  refine nt_rn_b 1 (c' := (1, [(0, .ref (n + 0))], [.ref (n + 0)], (ly_fo n M (ly_so.drop 32)))) rfl ?_
  refine nt_rn_n (g := 1000) (q := 2) (c' := (4, [(0, .ref (n + 0))], [], (ly_fo n M (ly_so.drop 32)))) (e := (1, .invokespecial 3, 1000, 0)) rfl rfl (by decide) (Or.inr (Or.inr ⟨_, rfl, rfl⟩)) (ly_x_obj (by omega) (by decide)) ?_
  refine nt_rn_b 1 (c' := (5, [(0, .ref (n + 0))], [.ref (n + 0)], (ly_fo n M (ly_so.drop 32)))) rfl ?_
  refine nt_rn_s (c' := (8, [(0, .ref (n + 0))], [.ref (n + 1), .ref (n + 0)], (ly_fo n M (ly_so.drop 31)))) (e := (5, .new 9, 8, 0)) rfl rfl (ly_x_new (c := n + 1) (by rw [ly_fo_n, hn]; rfl) (by omega) (by decide)) ?_
  refine nt_rn_b 1 (c' := (9, [(0, .ref (n + 0))], [.ref (n + 1), .ref (n + 1), .ref (n + 0)], (ly_fo n M (ly_so.drop 31)))) rfl ?_
  refine nt_rn_c (g := 85) (q := 2) (vs := [.ref (n + 1)]) (rest := [.ref (n + 1), .ref (n + 0)]) (e := (9, .invokespecial 11, 85, 0)) rfl rfl (Or.inr (Or.inr ⟨_, rfl, rfl⟩)) rfl (fun h => by cases h) (fun _ => rfl) (ly_mk85 hn hb) ?_
  refine nt_rn_s (c' := (15, [(0, .ref (n + 0))], [], (ly_fo n M (ly_so.drop 14)))) (e := (12, .putfield 12, 600, 0)) rfl rfl (nt_x_put (c := 6) (M' := (ly_fo n M (ly_so.drop 14))) (by rw [ly_fo_n, hn]; show n + 0 < n + 10; omega) (ly_fo_k (i := 0) (q := (6, 0)) (l := ly_so.drop 15) hn rfl).1 rfl rfl) ?_
  refine nt_rn_b 1 (c' := (16, [(0, .ref (n + 0))], [.ref (n + 0)], (ly_fo n M (ly_so.drop 14)))) rfl ?_
  refine nt_rn_b 1 (c' := (18, [(0, .ref (n + 0))], [.int (Int32.ofInt 6), .ref (n + 0)], (ly_fo n M (ly_so.drop 14)))) rfl ?_
  refine nt_rn_s (c' := (20, [(0, .ref (n + 0))], [.ref (n + 10), .ref (n + 0)], (ly_fo n M (ly_so.drop 13)))) (e := (18, .newarray .int, 0, 0)) rfl rfl (ly_x_arr (c := n + 10) (k := 6) (by rw [ly_fo_n, hn]; rfl) (by omega) (by decide) (by decide) (by decide)) ?_
  refine nt_rn_s (c' := (23, [(0, .ref (n + 0))], [], (ly_fo n M (ly_so.drop 12)))) (e := (20, .putfield 18, 607, 0)) rfl rfl (nt_x_put (c := 6) (M' := (ly_fo n M (ly_so.drop 12))) (by rw [ly_fo_n, hn]; show n + 0 < n + 11; omega) (ly_fo_k (i := 0) (q := (6, 0)) (l := ly_so.drop 13) hn rfl).1 rfl rfl) ?_
  refine nt_rn_b 1 (c' := (24, [(0, .ref (n + 0))], [.ref (n + 0)], (ly_fo n M (ly_so.drop 12)))) rfl ?_
  refine nt_rn_b 1 (c' := (26, [(0, .ref (n + 0))], [.int (Int32.ofInt 6), .ref (n + 0)], (ly_fo n M (ly_so.drop 12)))) rfl ?_
  refine nt_rn_s (c' := (28, [(0, .ref (n + 0))], [.ref (n + 11), .ref (n + 0)], (ly_fo n M (ly_so.drop 11)))) (e := (26, .newarray .int, 0, 0)) rfl rfl (ly_x_arr (c := n + 11) (k := 6) (by rw [ly_fo_n, hn]; rfl) (by omega) (by decide) (by decide) (by decide)) ?_
  refine nt_rn_s (c' := (31, [(0, .ref (n + 0))], [], (ly_fo n M (ly_so.drop 10)))) (e := (28, .putfield 22, 608, 0)) rfl rfl (nt_x_put (c := 6) (M' := (ly_fo n M (ly_so.drop 10))) (by rw [ly_fo_n, hn]; show n + 0 < n + 12; omega) (ly_fo_k (i := 0) (q := (6, 0)) (l := ly_so.drop 11) hn rfl).1 rfl rfl) ?_
  refine nt_rn_b 1 (c' := (32, [(0, .ref (n + 0))], [.ref (n + 0)], (ly_fo n M (ly_so.drop 10)))) rfl ?_
  refine nt_rn_b 1 (c' := (34, [(0, .ref (n + 0))], [.int (Int32.ofInt 6), .ref (n + 0)], (ly_fo n M (ly_so.drop 10)))) rfl ?_
  refine nt_rn_s (c' := (36, [(0, .ref (n + 0))], [.ref (n + 12), .ref (n + 0)], (ly_fo n M (ly_so.drop 9)))) (e := (34, .newarray .int, 0, 0)) rfl rfl (ly_x_arr (c := n + 12) (k := 6) (by rw [ly_fo_n, hn]; rfl) (by omega) (by decide) (by decide) (by decide)) ?_
  refine nt_rn_s (c' := (39, [(0, .ref (n + 0))], [], (ly_fo n M (ly_so.drop 8)))) (e := (36, .putfield 25, 609, 0)) rfl rfl (nt_x_put (c := 6) (M' := (ly_fo n M (ly_so.drop 8))) (by rw [ly_fo_n, hn]; show n + 0 < n + 13; omega) (ly_fo_k (i := 0) (q := (6, 0)) (l := ly_so.drop 9) hn rfl).1 rfl rfl) ?_
  refine nt_rn_b 1 (c' := (40, [(0, .ref (n + 0))], [.ref (n + 0)], (ly_fo n M (ly_so.drop 8)))) rfl ?_
  refine nt_rn_b 1 (c' := (42, [(0, .ref (n + 0))], [.int (Int32.ofInt 24), .ref (n + 0)], (ly_fo n M (ly_so.drop 8)))) rfl ?_
  refine nt_rn_s (c' := (44, [(0, .ref (n + 0))], [.ref (n + 13), .ref (n + 0)], (ly_fo n M (ly_so.drop 7)))) (e := (42, .newarray .int, 0, 0)) rfl rfl (ly_x_arr (c := n + 13) (k := 24) (by rw [ly_fo_n, hn]; rfl) (by omega) (by decide) (by decide) (by decide)) ?_
  refine nt_rn_s (c' := (47, [(0, .ref (n + 0))], [], (ly_fo n M (ly_so.drop 6)))) (e := (44, .putfield 28, 610, 0)) rfl rfl (nt_x_put (c := 6) (M' := (ly_fo n M (ly_so.drop 6))) (by rw [ly_fo_n, hn]; show n + 0 < n + 14; omega) (ly_fo_k (i := 0) (q := (6, 0)) (l := ly_so.drop 7) hn rfl).1 rfl rfl) ?_
  refine nt_rn_b 1 (c' := (48, [(0, .ref (n + 0))], [.ref (n + 0)], (ly_fo n M (ly_so.drop 6)))) rfl ?_
  refine nt_rn_b 1 (c' := (50, [(0, .ref (n + 0))], [.int (Int32.ofInt 24), .ref (n + 0)], (ly_fo n M (ly_so.drop 6)))) rfl ?_
  refine nt_rn_s (c' := (52, [(0, .ref (n + 0))], [.ref (n + 14), .ref (n + 0)], (ly_fo n M (ly_so.drop 5)))) (e := (50, .newarray .int, 0, 0)) rfl rfl (ly_x_arr (c := n + 14) (k := 24) (by rw [ly_fo_n, hn]; rfl) (by omega) (by decide) (by decide) (by decide)) ?_
  refine nt_rn_s (c' := (55, [(0, .ref (n + 0))], [], (ly_fo n M (ly_so.drop 4)))) (e := (52, .putfield 31, 611, 0)) rfl rfl (nt_x_put (c := 6) (M' := (ly_fo n M (ly_so.drop 4))) (by rw [ly_fo_n, hn]; show n + 0 < n + 15; omega) (ly_fo_k (i := 0) (q := (6, 0)) (l := ly_so.drop 5) hn rfl).1 rfl rfl) ?_
  refine nt_rn_b 1 (c' := (56, [(0, .ref (n + 0))], [.ref (n + 0)], (ly_fo n M (ly_so.drop 4)))) rfl ?_
  refine nt_rn_b 1 (c' := (58, [(0, .ref (n + 0))], [.int (Int32.ofInt 24), .ref (n + 0)], (ly_fo n M (ly_so.drop 4)))) rfl ?_
  refine nt_rn_s (c' := (60, [(0, .ref (n + 0))], [.ref (n + 15), .ref (n + 0)], (ly_fo n M (ly_so.drop 3)))) (e := (58, .newarray .boolean, 0, 0)) rfl rfl (ly_x_arr (c := n + 15) (k := 24) (by rw [ly_fo_n, hn]; rfl) (by omega) (by decide) (by decide) (by decide)) ?_
  refine nt_rn_s (c' := (63, [(0, .ref (n + 0))], [], (ly_fo n M (ly_so.drop 2)))) (e := (60, .putfield 34, 612, 0)) rfl rfl (nt_x_put (c := 6) (M' := (ly_fo n M (ly_so.drop 2))) (by rw [ly_fo_n, hn]; show n + 0 < n + 16; omega) (ly_fo_k (i := 0) (q := (6, 0)) (l := ly_so.drop 3) hn rfl).1 rfl rfl) ?_
  refine nt_rn_b 1 (c' := (64, [(0, .ref (n + 0))], [.ref (n + 0)], (ly_fo n M (ly_so.drop 2)))) rfl ?_
  refine nt_rn_b 1 (c' := (66, [(0, .ref (n + 0))], [.int (Int32.ofInt 8), .ref (n + 0)], (ly_fo n M (ly_so.drop 2)))) rfl ?_
  refine nt_rn_s (c' := (68, [(0, .ref (n + 0))], [.ref (n + 16), .ref (n + 0)], (ly_fo n M (ly_so.drop 1)))) (e := (66, .newarray .int, 0, 0)) rfl rfl (ly_x_arr (c := n + 16) (k := 8) (by rw [ly_fo_n, hn]; rfl) (by omega) (by decide) (by decide) (by decide)) ?_
  refine nt_rn_s (c' := (71, [(0, .ref (n + 0))], [], (ly_fo n M (ly_so.drop 0)))) (e := (68, .putfield 38, 613, 0)) rfl rfl (nt_x_put (c := 6) (M' := (ly_fo n M (ly_so.drop 0))) (by rw [ly_fo_n, hn]; show n + 0 < n + 17; omega) (ly_fo_k (i := 0) (q := (6, 0)) (l := ly_so.drop 1) hn rfl).1 rfl rfl) ?_
  exact nt_rn_rv (e := (71, .return_, 0, 0)) rfl rfl rfl rfl
end
section
/-! the class: an image that is not there is made -/
theorem ly_rev {X : nt_X} {d mi : Nat} {c c' : nt_C} {o : Option Value × nt_M} {e : Nat × Instr × Nat × Nat} (hat : nt_at mi c.1 = some e) (hp : nt_pl e.2.1 = true) (hs : nt_sx X mi e.2.2.1 e.2.2.2 e.2.1 c.1 c.2.1 c.2.2.1 c.2.2.2 = some c') (k : nt_rn X d mi c o) : nt_rn X d mi c' o := by
  obtain ⟨f, hf⟩ := k
  cases f with
  | zero => cases hf
  | succ f =>
    unfold nt_ex at hf
    rw [hat] at hf
    have hf : nt_ei (nt_ex X f) X d mi e c = some o := hf
    rw [nt_ei_pl hp hs] at hf
    exact ⟨f, hf⟩
theorem ly_revb {X : nt_X} {d mi : Nat} {o : Option Value × nt_M} : ∀ (n : Nat) {c c' : nt_C}, nt_bk X mi n c = some c' → nt_rn X d mi c o → nt_rn X d mi c' o
  | 0, c, c', h, k => by cases h; exact k
  | n + 1, c, c', h, k => by
    unfold nt_bk at h
    split at h
    · rename_i e he
      cases hp : nt_pl e.2.1 with
      | false => rw [hp] at h; cases h
      | true =>
        rw [hp] at h
        have h : (match nt_sx X mi e.2.2.1 e.2.2.2 e.2.1 c.1 c.2.1 c.2.2.1 c.2.2.2 with
          | some c' => nt_bk X mi n c'
          | none => none) = some c' := h
        split at h
        · rename_i c1 hs
          exact ly_revb n h (ly_rev he hp hs k)
        · cases h
    · cases h
theorem ly_ghp {pl pl' : Nat → Nat} {M M' : nt_M} {i : Int} (h : ∀ g, g = 1 ∨ g = 2 ∨ g = 3 → ∀ j, nt_I M' (pl' g) j = nt_I M (pl g) j) : nt_ghost 0 (fun h j => nt_I M' (pl' h) j) i = nt_ghost 0 (fun h j => nt_I M (pl h) j) i := by
  refine ly_gh (E := ly_E) (F := (pl, M, fun _ => 0, nt_ghost)) rfl rfl 0 _ _ _ ?_
  intro g hh j hj
  refine h g ?_ j
  rcases List.mem_cons.mp hh with e | hh
  · exact Or.inl e
  rcases List.mem_cons.mp hh with e | hh
  · exact Or.inr (Or.inl e)
  · exact Or.inr (Or.inr (List.mem_singleton.mp hh))
/-- what is known stands if the regions are as they were -/
theorem ly_B_eq {pl : Nat → Nat} {v : Nat → Int} {M M' : nt_M} (hB : ly_B pl v M) (hn : nt_n M ≤ nt_n M') (hs : nt_n M' ≤ nt_sp) (hk : ∀ g, g < 66 → nt_k M' (pl g) = nt_k M (pl g)) (hl : ∀ g, g < 66 → nt_l M' (pl g) = nt_l M (pl g)) (hI : ∀ g, g < 66 → ∀ j, nt_I M' (pl g) j = nt_I M (pl g) j) (hR : ∀ g, g < 66 → g ≠ 23 → g ≠ 65 → ∀ j, nt_R M' (pl g) j = nt_R M (pl g) j) : ly_B pl v M' := by
  obtain ⟨b1, b2, b3, b4⟩ := hB
  refine ⟨b1, ⟨hs, fun g q hq => ?_⟩, fun q hq => ?_, fun q hq => ?_⟩
  · have hg : g < 66 := (List.getElem?_eq_some_iff.mp hq).1
    have := b2.2 g q hq
    rw [hk g hg, hl g hg]
    refine ⟨by omega, this.2.1, this.2.2.1, this.2.2.2.1, fun j => ?_⟩
    rw [hI g hg j]
    exact this.2.2.2.2 j
  · have h := b3 q hq
    refine ⟨h.1, ?_⟩
    rw [← h.2]
    have hq2 := List.all_eq_true.mp (show ly_C.all (fun q => Nat.blt q.1.1 66 && (sx_lw 0 q.1.2 && decide (0 ≤ q.1.2.1)) || Nat.beq q.1.1 100) = true from by decide +kernel) q hq
    rw [Bool.or_eq_true, Bool.and_eq_true, Bool.and_eq_true] at hq2
    unfold sx_rd
    dsimp only
    rcases hq2 with ⟨c, c1, c2⟩ | c2
    · have c := Nat.blt_eq.mp c
      have c2 := of_decide_eq_true c2
      rw [if_neg (show ¬ 100 ≤ q.1.1 by omega), if_neg (show ¬ 100 ≤ q.1.1 by omega), ly_lw0 c1, if_neg (by omega), if_neg (by omega), hI _ c]
    · rw [Nat.eq_of_beq_eq_true c2, if_pos (by decide), if_pos (by decide)]
      exact ly_ghp (fun g hg j => hI g (by omega) j)
  · have l := List.all_eq_true.mp (show ly_R.all (fun q => Nat.blt q.1.1 66 && (!Nat.beq q.1.1 23 && !Nat.beq q.1.1 65)) = true from by decide +kernel) q hq
    rw [Bool.and_eq_true, Bool.and_eq_true, Bool.not_eq_true', Bool.not_eq_true'] at l
    have l1 := Nat.blt_eq.mp l.1
    obtain ⟨h1, h2, h3⟩ := b4 q hq
    refine ⟨h1, h2, ?_⟩
    rw [hR _ l1 (fun e => by rw [e] at l; exact absurd l.2.1 (by decide)) (fun e => by rw [e] at l; exact absurd l.2.2 (by decide))]
    exact h3
theorem ly_tab0 : sx_tbs.all (fun T => T.all (fun q => q.2.all (fun b => decide (b.1 ≤ 0) && decide (0 ≤ b.2)))) = true := by decide +kernel
/-- 0 lies in all bounds -/
theorem ly_iv0 (t j : Nat) : (sx_iv (sx_tbs.getD t []) j).1 ≤ 0 ∧ 0 ≤ (sx_iv (sx_tbs.getD t []) j).2 := by
  rcases List.mem_cons.mp (sx_iv_in (sx_tbs.getD t []) j) with e | h
  · rw [e]
    decide
  · obtain ⟨q, hq, hb⟩ := List.mem_flatMap.mp h
    have hT : sx_tbs.getD t [] ∈ sx_tbs := by
      by_cases c : t < sx_tbs.length
      · rw [List.getD_eq_getElem?_getD, List.getElem?_eq_getElem c]
        exact List.getElem_mem c
      · rw [List.getD_eq_getElem?_getD, List.getElem?_eq_none (by omega)] at hq
        cases hq
    have l := List.all_eq_true.mp (List.all_eq_true.mp (List.all_eq_true.mp ly_tab0 _ hT) q hq) _ hb
    rw [Bool.and_eq_true, decide_eq_true_eq, decide_eq_true_eq] at l
    exact l
theorem ly_so_k : (List.range 17).all (fun h => (match ly_ED[h]?, ly_kl ly_so h with | some q, some p => Nat.beq q.1 p.1 && (decide (q.2.1 ≤ (p.2 : Int)) && (decide ((p.2 : Int) ≤ q.2.2.1) && Nat.blt p.2 2147483648)) | _, _ => false)) = true := by decide +kernel
theorem ly_so_r : ly_RI.all (fun q => (match ly_rl ly_so (q.1.1 - 66) q.1.2.1.toNat with | some b => Nat.beq b (q.2 - 67) | none => false)) = true := by decide +kernel
/-- a state just made is an image -/
theorem ly_im_new0 {n a j : Nat} {M1 : nt_M} {b : Option Nat} (ha : a < n) (hc : nt_n M1 = n + 17) (fk : ∀ i q, ly_kl ly_so i = some q → nt_k M1 (n + i) = q.1 ∧ nt_l M1 (n + i) = q.2) (fI : ∀ i, i < 17 → ∀ j, nt_I M1 (n + i) j = 0) (fR : ∀ i, i < 17 → ∀ j, nt_R M1 (n + i) j = (ly_rl ly_so i j).map (fun b => n + b)) : ly_im n 0 (nt_sR M1 a j b) := by
  refine ⟨fun h q hq => ?_, fun q hq => ?_, ?_⟩
  · have hh : h < 17 := (List.getElem?_eq_some_iff.mp hq).1
    have l := List.all_eq_true.mp ly_so_k h (List.mem_range.mpr hh)
    rw [hq] at l
    cases hk : ly_kl ly_so h with
    | none => rw [hk] at l; cases l
    | some p =>
      rw [hk] at l
      dsimp only at l
      rw [Bool.and_eq_true, Bool.and_eq_true, Bool.and_eq_true, decide_eq_true_eq, decide_eq_true_eq] at l
      obtain ⟨l1, l2, l3, l4⟩ := l
      have l1 := Nat.eq_of_beq_eq_true l1
      have l4 := Nat.blt_eq.mp l4
      have f := fk h p hk
      have hI := fI h hh
      show n + h < nt_n M1 ∧ nt_k M1 (n + h) = q.1 ∧ (q.2.1 ≤ (nt_l M1 (n + h) : Int) ∧ (nt_l M1 (n + h) : Int) ≤ q.2.2.1) ∧ nt_l M1 (n + h) < 2147483648 ∧ ∀ i, (sx_iv (sx_tbs.getD q.2.2.2 []) i).1 ≤ (nt_I M1 (n + h) i).toInt ∧ (nt_I M1 (n + h) i).toInt ≤ (sx_iv (sx_tbs.getD q.2.2.2 []) i).2
      rw [f.1, f.2]
      refine ⟨by omega, l1.symm, ⟨l2, l3⟩, l4, fun i => ?_⟩
      rw [hI i]
      exact ly_iv0 _ i
  · have l := List.all_eq_true.mp ly_so_r q hq
    cases hr : ly_rl ly_so (q.1.1 - 66) q.1.2.1.toNat with
    | none => rw [hr] at l; cases l
    | some b' =>
      rw [hr] at l
      have l := Nat.eq_of_beq_eq_true l
      have h17 := Nat.blt_eq.mp (List.all_eq_true.mp ly_RI_lt q hq)
      have f := fR (q.1.1 - 66) h17 q.1.2.1.toNat
      rw [hr] at f
      show (if n + (q.1.1 - 66) = a then (if q.1.2.1.toNat = j then b else nt_R M1 (n + (q.1.1 - 66)) q.1.2.1.toNat) else nt_R M1 (n + (q.1.1 - 66)) q.1.2.1.toNat) = _
      rw [if_neg (by omega), f, ← l]
      rfl
  · have hI := fI 0 (by omega) 6
    rw [Nat.add_zero] at hI
    show (nt_I M1 n 6).toInt = 0
    rw [hI]
    rfl
theorem ly_so_c : ly_cnt ly_so = 17 := by decide +kernel
theorem ly_so_z : ly_zs ly_so = 253 := by decide +kernel
theorem ly_im_new {n a j : Nat} {M M1 : nt_M} {b : Option Nat} (hn : nt_n M = n) (ha : a < n) (h1 : M1 = ly_fo n M ly_so) : ly_im n 0 (nt_sR M1 a j b) := by
  refine ly_im_new0 ha (by rw [h1, ly_fo_n, hn, ly_so_c]) (fun i q h => ?_) (fun i hi j => ?_) (fun i hi j => ?_)
  · rw [h1]
    exact ly_fo_k hn h
  · rw [h1]
    exact ly_fo_I hn ly_so (by rw [ly_so_c]; exact hi) j
  · rw [h1]
    exact ly_fo_R hn ly_so (by rw [ly_so_c]; exact hi) j
/-- THE IMAGE that is not there -/
theorem ly_imgN {X : nt_X} {K : sx_K} {pl : Nat → Nat} {v mk xi : Nat → Int} {M : nt_M} {d k : Nat} {mo : List (Nat × Int × Int)} (hK : sx_KOK X (sx_tbs, sx_gps) K) (hKe : K = (127, 3, ly_D ++ ly_ED, (mo, []), [(2, 16, (0, [])), (0, 0, ((k : Int), []))], (ly_C ++ [((66, (6, [])), (0, [(11, 1)]))], ly_R ++ (((65, ((k : Int), [])), 67) :: ly_RI), (ly_b ++ [(11, -2147483648, 2147483647)], []), 12), [(some (0, 0, (0, [(12, 1)])), (ly_C ++ [((66, (6, [])), (0, [(1, 1)]))], ly_R ++ (((65, ((k : Int), [])), 67) :: ly_RI), ([(12, -2147483648, 2147483647)], []), 13))])) (hmo : mo.all (lq_b 83) = true) (hk : k < 4) (hB : ly_B pl v M) (hS : ly_S pl mk xi (v 2) M) (hm : mk k = 0) : ∃ (y : Int32) (M' : nt_M), nt_ev X (d + 3) 127 [.ref (pl 16), .int (nI k)] M (some (.int y), M') ∧ lq_T pl M M' ∧ lq_I X pl v (d + 3) k y M M' ∧ ly_B pl v M' ∧ ly_S pl (fun i => if i = k then 1 else mk i) (fun i => if i = k then v 1 else xi i) (v 2) M' := by
  obtain ⟨⟨p1, p2, p3, p4⟩, ⟨p5, p6⟩, T, p7, p8⟩ := id hS
  have hv2 := ly_ob hB (2, 0, 6) (List.mem_of_getElem? (i := 2) rfl)
  dsimp only at hv2
  have mk01 : ∀ i, i < 4 → 0 ≤ mk i ∧ mk i ≤ 1 := by
    intro i hi
    rcases p7 i hi with ⟨_, c⟩ | ⟨a, _, c, _⟩ <;> omega
  have m0 := mk01 0 (by omega)
  have m1 := mk01 1 (by omega)
  have m2 := mk01 2 (by omega)
  have m3 := mk01 3 (by omega)
  obtain ⟨n, hn⟩ : ∃ n, nt_n M = n := ⟨_, rfl⟩
  rw [hn] at p4 p5
  have hnb : n + 20 < nt_sp := by show n + 20 < 3000; omega
  have hnone : nt_R M (pl 65) k = none := by
    rcases p7 k hk with ⟨c, _⟩ | ⟨a, _, c, _⟩
    · exact c
    · omega
  obtain ⟨M1, hM1⟩ : ∃ M1, M1 = ly_fo n M ly_so := ⟨_, rfl⟩
  have n1 : nt_n M1 = n + 17 := by rw [hM1, ly_fo_n, hn, ly_so_c]
  have z1 : nt_z M1 = nt_z M + 253 := by rw [hM1, ly_fo_z, ly_so_z]
  have old : ∀ p, p < n → nt_k M1 p = nt_k M p ∧ nt_l M1 p = nt_l M p ∧ nt_I M1 p = nt_I M p ∧ nt_R M1 p = nt_R M p := fun p hp => by
    rw [hM1]
    exact ly_fo_old hn hp ly_so
  have q65 := p1 65 (by omega)
  have q16 := p1 16 (by omega)
  have q23 := p1 23 (by omega)
  have rR : ∀ p j, p ≠ pl 65 → nt_R (nt_sR M1 (pl 65) k (some n)) p j = nt_R M1 p j := fun p j hp => by
    show (if p = pl 65 then (if j = k then some n else nt_R M1 p j) else nt_R M1 p j) = _
    rw [if_neg hp]
  have r65 : ∀ j, nt_R (nt_sR M1 (pl 65) k (some n)) (pl 65) j = if j = k then some n else nt_R M (pl 65) j := fun j => by
    show (if pl 65 = pl 65 then (if j = k then some n else nt_R M1 (pl 65) j) else nt_R M1 (pl 65) j) = _
    rw [if_pos rfl, (old _ (by omega)).2.2.2]
  have hB2 : ly_B pl v (nt_sR M1 (pl 65) k (some n)) := by
    refine ly_B_eq hB (by show nt_n M ≤ nt_n M1; omega) (by show nt_n M1 ≤ 3000; have : nt_sp = 3000 := rfl; omega) (fun g hg => ?_) (fun g hg => ?_) (fun g hg j => ?_) (fun g hg _ h65 j => ?_)
    · have := p1 g hg
      exact (old _ (by omega)).1
    · have := p1 g hg
      exact (old _ (by omega)).2.1
    · have := p1 g hg
      show nt_I M1 (pl g) j = _
      rw [(old _ (by omega)).2.2.1]
    · have := p1 g hg
      rw [rR _ _ (fun e => h65 (hB.1 g 65 hg (by show 65 < 66; omega) e)), (old _ (by omega)).2.2.2]
  have hS2 : ly_S pl (fun i => if i = k then 1 else mk i) (fun i => if i = k then 0 else xi i) (v 2) (nt_sR M1 (pl 65) k (some n)) := by
    have hsum : ((if (0 : Nat) = k then (1 : Int) else mk 0) + (if (1 : Nat) = k then (1 : Int) else mk 1) + (if (2 : Nat) = k then (1 : Int) else mk 2) + (if (3 : Nat) = k then (1 : Int) else mk 3)) = mk 0 + mk 1 + mk 2 + mk 3 + 1 := by
      rcases (by omega : k = 0 ∨ k = 1 ∨ k = 2 ∨ k = 3) with rfl | rfl | rfl | rfl
      · show (1 : Int) + mk 1 + mk 2 + mk 3 = _; omega
      · show mk 0 + (1 : Int) + mk 2 + mk 3 = _; omega
      · show mk 0 + mk 1 + (1 : Int) + mk 3 = _; omega
      · show mk 0 + mk 1 + mk 2 + (1 : Int) = _; omega
    refine ⟨⟨p1, p2, p3, by show 66 ≤ nt_n M1; omega⟩, ⟨?_, ?_⟩, (fun p => if n ≤ p then k else T p), fun k' hk' => ?_, fun u hu => ?_⟩
    · show (nt_n M1 : Int) ≤ 66 + 17 * ((if (0 : Nat) = k then (1 : Int) else mk 0) + (if (1 : Nat) = k then (1 : Int) else mk 1) + (if (2 : Nat) = k then (1 : Int) else mk 2) + (if (3 : Nat) = k then (1 : Int) else mk 3)) + 2 * v 2
      rw [hsum]
      omega
    · show (nt_z M1 : Int) ≤ 20000 + 400 * ((if (0 : Nat) = k then (1 : Int) else mk 0) + (if (1 : Nat) = k then (1 : Int) else mk 1) + (if (2 : Nat) = k then (1 : Int) else mk 2) + (if (3 : Nat) = k then (1 : Int) else mk 3)) + 500 * v 2
      rw [hsum]
      omega
    · rw [r65]
      by_cases e : k' = k
      · refine Or.inr ⟨n, if_pos e, if_pos e, p4, by show n + 17 ≤ nt_n M1; omega, fun i hi => ?_, ?_⟩
        · show (if n ≤ n + i then k else T (n + i)) = k'
          rw [if_pos (by omega), e]
        · show ly_im n (if k' = k then 0 else xi k') _
          rw [if_pos e]
          exact ly_im_new hn (by omega) hM1
      · rw [if_neg e]
        show (_ ∧ (if k' = k then (1 : Int) else mk k') = 0) ∨ ∃ a, _ ∧ (if k' = k then (1 : Int) else mk k') = 1 ∧ _ ∧ _ ∧ _ ∧ ly_im a (if k' = k then 0 else xi k') _
        rw [if_neg e, if_neg e]
        rcases p7 k' hk' with c | ⟨a, c1, c2, c3, c4, c5, c6⟩
        · exact Or.inl c
        · rw [hn] at c4
          refine Or.inr ⟨a, c1, c2, c3, by show a + 17 ≤ nt_n M1; omega, fun i hi => ?_, ?_⟩
          · show (if n ≤ a + i then k else T (a + i)) = k'
            rw [if_neg (by omega)]
            exact c5 i hi
          · obtain ⟨g1, g2, g3⟩ := c6
            refine ⟨fun h q hq => ?_, fun q hq => ?_, ?_⟩
            · have hh : h < 17 := (List.getElem?_eq_some_iff.mp hq).1
              have o := old (a + h) (by omega)
              have g := g1 h q hq
              show a + h < nt_n M1 ∧ nt_k M1 (a + h) = q.1 ∧ (q.2.1 ≤ (nt_l M1 (a + h) : Int) ∧ (nt_l M1 (a + h) : Int) ≤ q.2.2.1) ∧ nt_l M1 (a + h) < 2147483648 ∧ ∀ i, (sx_iv (sx_tbs.getD q.2.2.2 []) i).1 ≤ (nt_I M1 (a + h) i).toInt ∧ (nt_I M1 (a + h) i).toInt ≤ (sx_iv (sx_tbs.getD q.2.2.2 []) i).2
              rw [o.1, o.2.1, o.2.2.1]
              exact ⟨by omega, g.2⟩
            · have h17 := Nat.blt_eq.mp (List.all_eq_true.mp ly_RI_lt q hq)
              rw [rR _ _ (by omega), (old _ (by omega)).2.2.2]
              exact g2 q hq
            · show (nt_I M1 a 6).toInt = _
              rw [(old a (by omega)).2.2.1]
              exact g3
    · obtain ⟨b, c1, c2, c3, c4, c5, c6, c7⟩ := p8 u hu
      rw [hn] at c3
      have n23 : pl 23 ≠ pl 65 := fun e => absurd (hB.1 23 65 (by show 23 < 66; omega) (by show 65 < 66; omega) e) (by decide)
      rw [rR _ _ n23, (old _ (by omega)).2.2.2]
      refine ⟨b, c1, c2, by show b + 2 ≤ nt_n M1; omega, by show (if n ≤ b then k else T b) = _; rw [if_neg (by omega)]; exact c4, by show (if n ≤ b + 1 then k else T (b + 1)) = _; rw [if_neg (by omega)]; exact c5, fun h q hq => ?_, ?_⟩
      · have hh : h < 2 := (List.getElem?_eq_some_iff.mp hq).1
        have o := old (b + h) (by omega)
        have g := c6 h q hq
        show b + h < nt_n M1 ∧ nt_k M1 (b + h) = q.1 ∧ (q.2.1 ≤ (nt_l M1 (b + h) : Int) ∧ (nt_l M1 (b + h) : Int) ≤ q.2.2.1) ∧ nt_l M1 (b + h) < 2147483648 ∧ ∀ i, (sx_iv (sx_tbs.getD q.2.2.2 []) i).1 ≤ (nt_I M1 (b + h) i).toInt ∧ (nt_I M1 (b + h) i).toInt ≤ (sx_iv (sx_tbs.getD q.2.2.2 []) i).2
        rw [o.1, o.2.1, o.2.2.1]
        exact ⟨by omega, g.2⟩
      · rw [rR _ _ (by omega), (old _ (by omega)).2.2.2]
        exact c7
  obtain ⟨y, M', hev, hq3, hI3, hB3, hS3⟩ := ly_imgC (d := d + 3) hK hKe hmo hk (by omega) hB2 hS2 (by show (if k = k then (1 : Int) else mk k) = 1; rw [if_pos rfl])
  refine ⟨y, M', ?_, fun g j hc => (hq3 g j hc).trans (by have := p1 g (lq_c66 hc); show nt_I M1 (pl g) j = _; rw [(old _ (by omega)).2.2.1]), ?_, hB3, ?_⟩
  · have g16 := hB.2.1.2 16 _ (show ly_E.2.1[16]? = some (10, 0, 0, 8) from rfl)
    have g65 := hB.2.1.2 65 _ (show ly_E.2.1[65]? = some (17, 4, 4, 0) from rfl)
    have rimg := (hB.2.2.2 ((16, (9, [])), 66) (List.mem_of_getElem? (i := 8) rfl)).2.2
    dsimp only at rimg
    rw [sx_c_e] at rimg
    have rimg : nt_R M (pl 16) 9 = some (pl 65) := rimg
    have l65 : nt_l M (pl 65) = 4 := by have := g65.2.2.1; dsimp only at this; omega
    have n16 : pl 16 ≠ pl 65 := fun e => absurd (hB.1 16 65 (by show 16 < 66; omega) (by show 65 < 66; omega) e) (by decide)
    have kk0 : ¬ nI k < 0 := nI_pos (by omega)
    have kk4 : nI k < Int32.ofInt 4 := nI_lt (b := 4) hk (by omega)
    have hl16 : pl 16 < n := by omega
    have hl65 : pl 65 < n := by omega
    generalize hM2 : nt_sR M1 (pl 65) k (some n) = M2 at hev
    -- the run over the new memory, as far as 33
    have e2n : nt_n M2 = n + 17 := by rw [← hM2]; exact n1
    have e2k : ∀ p, p < n → nt_k M2 p = nt_k M p := fun p hp => by rw [← hM2]; exact (old p hp).1
    have e2l : ∀ p, p < n → nt_l M2 p = nt_l M p := fun p hp => by rw [← hM2]; exact (old p hp).2.1
    have e2r : nt_R M2 (pl 16) 9 = some (pl 65) := by rw [← hM2, rR _ _ n16, (old _ hl16).2.2.2]; exact rimg
    have e2i : nt_R M2 (pl 65) k = some n := by rw [← hM2, r65, if_pos rfl]
    have hev : nt_rn X (d + 3) 127 (0, [(0, .ref (pl 16)), (1, .int (nI k))], [], M2) (some (.int y), M') := hev
    have hev := ly_revb 2 (c' := (if nI k < 0 then 9 else 4, [(0, .ref (pl 16)), (1, .int (nI k))], [], M2)) rfl hev
    rw [if_neg kk0] at hev
    have hev := ly_revb 3 (c' := (if nI k < Int32.ofInt 4 then 11 else 9, [(0, .ref (pl 16)), (1, .int (nI k))], [], M2)) rfl hev
    rw [if_pos kk4] at hev
    have hev := ly_revb 1 (c' := (12, [(0, .ref (pl 16)), (1, .int (nI k))], [.ref (pl 16)], M2)) rfl hev
    have hev := ly_rev (c' := (15, [(0, .ref (pl 16)), (1, .int (nI k))], [.ref (pl 65)], M2)) (e := (12, .getfield 67, 1009, 0)) rfl rfl (nt_x_get (c := 10) (v := .ref (pl 65)) (show pl 16 < nt_n M2 by omega) (by rw [e2k _ hl16]; exact g16.2.1) rfl (nt_gfR rfl e2r)) hev
    have hev := ly_revb 1 (c' := (16, [(0, .ref (pl 16)), (1, .int (nI k))], [.int (nI k), .ref (pl 65)], M2)) rfl hev
    have aald : ∀ (Mx : nt_M) (pc : Nat) (st : List Value) (o : Option Nat), nt_k Mx (pl 65) = 17 → nt_l Mx (pl 65) = 4 → pl 65 < nt_n Mx → nt_R Mx (pl 65) k = o → nt_sx X 127 0 0 .aaload pc [(0, .ref (pl 16)), (1, .int (nI k))] (.int (nI k) :: .ref (pl 65) :: st) Mx = some (pc + 1, [(0, .ref (pl 16)), (1, .int (nI k))], nt_rv o :: st, Mx) := by
      intro Mx pc st o h1 h2 h3 h4
      show (if nt_k Mx (pl 65) = 17 then nt_in Mx (pl 65) 17 (nI k) (some (pc + 1, _, nt_rv (nt_R Mx (pl 65) (nI k).toNatClampNeg) :: st, Mx)) else _) = _
      rw [if_pos h1, nt_inI (i := k) h3 h1 rfl (by rw [h2]; exact hk) (by rw [h2]; decide), nI_clamp (by omega), h4]
    have hev := ly_rev (c' := (17, [(0, .ref (pl 16)), (1, .int (nI k))], [.ref n], M2)) (e := (16, .aaload, 0, 0)) rfl rfl (aald M2 16 [] (some n) (by rw [e2k _ hl65]; exact g65.2.1) (by rw [e2l _ hl65]; exact l65) (by omega) e2i) hev
    have hev := ly_revb 1 (c' := (33, [(0, .ref (pl 16)), (1, .int (nI k))], [], M2)) rfl hev
    -- the run over the old memory
    refine nt_rn_b 2 (c' := (if nI k < 0 then 9 else 4, [(0, .ref (pl 16)), (1, .int (nI k))], [], M)) rfl ?_
    rw [if_neg kk0]
    refine nt_rn_b 3 (c' := (if nI k < Int32.ofInt 4 then 11 else 9, [(0, .ref (pl 16)), (1, .int (nI k))], [], M)) rfl ?_
    rw [if_pos kk4]
    refine nt_rn_b 1 (c' := (12, [(0, .ref (pl 16)), (1, .int (nI k))], [.ref (pl 16)], M)) rfl ?_
    refine nt_rn_s (c' := (15, [(0, .ref (pl 16)), (1, .int (nI k))], [.ref (pl 65)], M)) (e := (12, .getfield 67, 1009, 0)) rfl rfl (nt_x_get (c := 10) (v := .ref (pl 65)) g16.1 g16.2.1 rfl (nt_gfR rfl rimg)) ?_
    refine nt_rn_b 1 (c' := (16, [(0, .ref (pl 16)), (1, .int (nI k))], [.int (nI k), .ref (pl 65)], M)) rfl ?_
    refine nt_rn_s (c' := (17, [(0, .ref (pl 16)), (1, .int (nI k))], [.null], M)) (e := (16, .aaload, 0, 0)) rfl rfl (aald M 16 [] none g65.2.1 l65 g65.1 hnone) ?_
    refine nt_rn_b 2 (c' := (21, [(0, .ref (pl 16)), (1, .int (nI k))], [.ref (pl 16)], M)) rfl ?_
    refine nt_rn_s (c' := (24, [(0, .ref (pl 16)), (1, .int (nI k))], [.ref (pl 65)], M)) (e := (21, .getfield 67, 1009, 0)) rfl rfl (nt_x_get (c := 10) (v := .ref (pl 65)) g16.1 g16.2.1 rfl (nt_gfR rfl rimg)) ?_
    refine nt_rn_b 1 (c' := (25, [(0, .ref (pl 16)), (1, .int (nI k))], [.int (nI k), .ref (pl 65)], M)) rfl ?_
    refine nt_rn_s (c' := (28, [(0, .ref (pl 16)), (1, .int (nI k))], [.ref (n + 0), .int (nI k), .ref (pl 65)], ly_fo n M (ly_so.drop 32))) (e := (25, .new 57, 6, 0)) rfl rfl (ly_x_new (c := n + 0) hn (by omega) (by decide)) ?_
    refine nt_rn_b 1 (c' := (29, [(0, .ref (pl 16)), (1, .int (nI k))], [.ref (n + 0), .ref (n + 0), .int (nI k), .ref (pl 65)], ly_fo n M (ly_so.drop 32))) rfl ?_
    refine nt_rn_c (g := 63) (q := 2) (vs := [.ref (n + 0)]) (rest := [.ref (n + 0), .int (nI k), .ref (pl 65)]) (e := (29, .invokespecial 59, 63, 0)) rfl rfl (Or.inr (Or.inr ⟨_, rfl, rfl⟩)) rfl (fun h => by cases h) (fun _ => rfl) (ly_mk63 hn hnb) ?_
    rw [← hM1]
    refine nt_rn_s (c' := (33, [(0, .ref (pl 16)), (1, .int (nI k))], [], nt_sR M1 (pl 65) k (some n))) (e := (32, .aastore, 0, 0)) rfl rfl ?_ ?_
    · have k65 : nt_k M1 (pl 65) = 17 := by rw [(old _ hl65).1]; exact g65.2.1
      have kn : nt_k M1 n = 6 := by
        rw [hM1]
        exact (ly_fo_k (i := 0) (q := (6, 0)) hn (by decide +kernel)).1
      show (if n < nt_n M1 ∧ (nt_k M1 (pl 65) = 16 ∧ nt_k M1 n = 4 ∨ nt_k M1 (pl 65) = 17 ∧ nt_k M1 n = 6) then nt_in M1 (pl 65) (nt_k M1 (pl 65)) (nI k) (some (33, _, [], nt_sR M1 (pl 65) (nI k).toNatClampNeg (some n))) else none) = _
      rw [if_pos ⟨by omega, Or.inr ⟨k65, kn⟩⟩, nt_inI (i := k) (by omega) rfl rfl (by rw [(old _ hl65).2.1, l65]; exact hk) (by rw [(old _ hl65).2.1, l65]; decide), nI_clamp (by omega)]
    · rw [hM2]
      exact hev
  · obtain ⟨M2, a, x, i1, i2, i3, i4, i5, i6, i7, ⟨i8, i9⟩, j1, j2, j3, j4⟩ := hI3
    have n23 : pl 23 ≠ pl 65 := fun e => absurd (hB.1 23 65 (by show 23 < 66; omega) (by show 65 < 66; omega) e) (by decide)
    have j2 : nt_n M1 ≤ nt_n M2 := j2
    refine ⟨M2, a, x, i1, i2, i3, i4, i5, fun g j hg => ?_, i7, ⟨fun k' hk' hne => ?_, fun k' a' hk' hne ha' j => ?_⟩, fun b hb => ?_, by omega, fun k' hne => ?_, fun u => ?_⟩
    · have := p1 g hg
      rw [i6 g j hg]
      show nt_I M1 (pl g) j = _
      rw [(old _ (by omega)).2.2.1]
    · rw [i8 k' hk' hne, r65, if_neg hne]
    · rcases p7 k' hk' with ⟨c', _⟩ | ⟨a2, c1', c2', c3', c4', _, _⟩
      · rw [ha'] at c'
        cases c'
      · rw [ha'] at c1'
        cases c1'
        rw [hn] at c4'
        rw [i9 k' a' hk' hne (by rw [r65, if_neg hne]; exact ha') j]
        show nt_I M1 a' j = _
        rw [(old _ (by omega)).2.2.1]
    · rw [hn] at hb
      have q := j1 b (by show b < nt_n M1; omega)
      rw [q.1, q.2]
      show nt_I M1 b = _ ∧ nt_l M1 b = _
      exact ⟨(old b hb).2.2.1, (old b hb).2.1⟩
    · rw [j3 k' hne, r65, if_neg hne]
    · rw [j4 u, rR _ _ n23, (old _ (by omega)).2.2.2]
  · have e : (fun i => if i = k then v 1 else (fun i => if i = k then 0 else xi i) i) = (fun i => if i = k then v 1 else xi i) := by
      funext i
      by_cases c : i = k
      · rw [if_pos c, if_pos c]
      · rw [if_neg c, if_neg c]
        show (if i = k then 0 else xi i) = xi i
        rw [if_neg c]
    rw [e] at hS3
    exact hS3
end
section
/-! the class: a rule is read and made -/
theorem ly_B_wI {pl : Nat → Nat} {v v' : Nat → Int} {M : nt_M} {g j : Nat} {x : Int32} {q : Nat × Int × Int × Nat} (hB : ly_B pl v M) (hq : ly_D[g]? = some q) (h123 : g ≠ 1 ∧ g ≠ 2 ∧ g ≠ 3) (hb : (sx_iv (sx_tbs.getD q.2.2.2 []) j).1 ≤ x.toInt ∧ x.toInt ≤ (sx_iv (sx_tbs.getD q.2.2.2 []) j).2) (hv : ∀ c ∈ ly_C, (c.1.1 = g ∧ c.1.2 = ((j : Int), []) → sx_e v' c.2 = x.toInt) ∧ (¬ (c.1.1 = g ∧ c.1.2 = ((j : Int), [])) → sx_e v' c.2 = sx_e v c.2)) : ly_B pl v' (nt_sI M (pl g) j x) := by
  have hg : g < 66 := (List.getElem?_eq_some_iff.mp hq).1
  obtain ⟨b1, b2, b3, b4⟩ := hB
  have row : ∀ h, h < 66 → ∀ i, nt_I (nt_sI M (pl g) j x) (pl h) i = if h = g ∧ i = j then x else nt_I M (pl h) i := by
    intro h hh i
    show (if pl h = pl g then (if i = j then x else nt_I M (pl h) i) else nt_I M (pl h) i) = _
    by_cases e : h = g
    · rw [if_pos (by rw [e])]
      by_cases e2 : i = j
      · rw [if_pos e2, if_pos ⟨e, e2⟩]
      · rw [if_neg e2, if_neg (fun z => e2 z.2)]
    · rw [if_neg (fun z => e (b1 h g hh hg z)), if_neg (fun z => e z.1)]
  refine ⟨b1, ⟨b2.1, fun h p hp => ?_⟩, fun c hc => ?_, fun c hc => ?_⟩
  · have hh : h < 66 := (List.getElem?_eq_some_iff.mp hp).1
    have k := b2.2 h p hp
    refine ⟨k.1, k.2.1, k.2.2.1, k.2.2.2.1, fun i => ?_⟩
    rw [row h hh i]
    by_cases e : h = g ∧ i = j
    · rw [if_pos e]
      have hp2 : ly_D[h]? = some p := hp
      rw [e.1, hq] at hp2
      cases hp2
      rw [e.2]
      exact hb
    · rw [if_neg e]
      exact k.2.2.2.2 i
  · have h := b3 c hc
    refine ⟨h.1, ?_⟩
    have hq2 := List.all_eq_true.mp (show ly_C.all (fun q => Nat.blt q.1.1 66 && (sx_lw 0 q.1.2 && decide (0 ≤ q.1.2.1)) || Nat.beq q.1.1 100) = true from by decide +kernel) c hc
    rw [Bool.or_eq_true, Bool.and_eq_true, Bool.and_eq_true] at hq2
    have hvc := hv c hc
    rcases hq2 with ⟨k, c1, c2⟩ | c2
    · have k := Nat.blt_eq.mp k
      have c2 := of_decide_eq_true c2
      have hc1 : c.1.2 = (c.1.2.1, []) := by
        obtain ⟨⟨a, m, l⟩, w⟩ := c
        cases l with
        | nil => rfl
        | cons y t =>
          unfold sx_lw at c1
          rw [List.all_cons, Bool.and_eq_true] at c1
          have := Nat.blt_eq.mp c1.1
          omega
      have h2 := h.2
      rw [ly_lw0 c1] at h2 ⊢
      unfold sx_rd at h2 ⊢
      dsimp only at h2 ⊢
      rw [if_neg (show ¬ 100 ≤ c.1.1 by omega), if_neg (by omega)] at h2 ⊢
      rw [row _ k]
      by_cases e : c.1.1 = g ∧ c.1.2.1.toNat = j
      · rw [if_pos e]
        exact (hvc.1 ⟨e.1, by rw [hc1]; have := e.2; rw [show c.1.2.1 = (j : Int) from by omega]⟩).symm
      · rw [if_neg e, hvc.2 (fun z => e ⟨z.1, by rw [z.2]; omega⟩)]
        exact h2
    · have e100 := Nat.eq_of_beq_eq_true c2
      rw [hvc.2 (fun z => by omega), ← h.2]
      have l0 : sx_lw 0 c.1.2 = true := List.all_eq_true.mp (show ly_C.all (fun q => sx_lw 0 q.1.2) = true from by decide +kernel) c hc
      rw [ly_lw0 l0, ly_lw0 l0]
      unfold sx_rd
      dsimp only
      rw [e100, if_pos (by decide), if_pos (by decide)]
      refine ly_ghp (fun h hh i => ?_)
      rw [row h (by omega) i, if_neg (fun z => by omega)]
  · exact ly_or (E := ly_E) (E' := ly_E) (M := M) (Nat.le_refl _) (by decide +kernel) b4 c hc
theorem ly_copyOf {X : nt_X} {d n S sz : Nat} {M : nt_M} (hn : nt_n M = n) (hb : n < 2000) (hS : S < n) (kS : nt_k M S = 13) (lS : nt_l M S = 400) (h4 : sz < 400) : ∃ f : Nat → Int32, (∀ j, j < sz → f j = nt_I M S j) ∧ nt_ev X (d + 1) 237 [.ref S, .int (nI sz)] M (some (.ref n), nt_wI (nt_nw M 13 sz sz) n f) := by
  refine ⟨va_cpy (nt_I (nt_nw M 13 sz sz) S) (nt_I (nt_nw M 13 sz sz) n) 0 0 sz, fun j hj => ?_, ?_⟩
  · unfold va_cpy
    rw [if_pos (by omega)]
    show (if S = nt_n M then (fun _ => 0) else nt_I M S) _ = _
    rw [if_neg (by omega)]
    congr 1
    omega
  have hsp : nt_n M ≤ nt_sp := by show nt_n M ≤ 3000; omega
  have kS2 : nt_k (nt_nw M 13 sz sz) S = 13 := by
    show (if S = nt_n M then 13 else nt_k M S) = 13
    rw [if_neg (by omega)]; exact kS
  have lS2 : nt_l (nt_nw M 13 sz sz) S = 400 := by
    show (if S = nt_n M then sz else nt_l M S) = 400
    rw [if_neg (by omega)]; exact lS
  have kn2 : nt_k (nt_nw M 13 sz sz) n = 13 := by
    show (if n = nt_n M then 13 else nt_k M n) = 13
    rw [if_pos hn.symm]
  have ln2 : nt_l (nt_nw M 13 sz sz) n = sz := by
    show (if n = nt_n M then sz else nt_l M n) = sz
    rw [if_pos hn.symm]
  have n2 : nt_n (nt_nw M 13 sz sz) = n + 1 := by show nt_n M + 1 = n + 1; omega
  refine nt_rn_b 2 (c' := (2, [(0, .ref S), (1, .int (nI sz))], [.ref S, .int (nI sz)], M)) rfl ?_
  refine nt_rn_s (c' := (3, [(0, .ref S), (1, .int (nI sz))], [.int (nI (nt_l M S)), .int (nI sz)], M)) (e := (2, .arraylength, 0, 0)) rfl rfl (nt_x_len (show S < nt_n M by omega) hsp (show 12 ≤ nt_k M S by omega) (show nt_k M S < 18 by omega)) ?_
  rw [lS]
  refine nt_rn_b 1 (c' := (if nI sz = nI 400 then 6 else 14, [(0, .ref S), (1, .int (nI sz))], [], M)) rfl ?_
  rw [if_neg (fun e => by rw [nI_eq (by omega) (by omega)] at e; omega)]
  refine nt_rn_b 1 (c' := (15, [(0, .ref S), (1, .int (nI sz))], [.int (nI sz)], M)) rfl ?_
  refine nt_rn_s (c' := (17, [(0, .ref S), (1, .int (nI sz))], [.ref n], nt_nw M 13 sz sz)) (e := (15, .newarray .int, 0, 0)) rfl rfl (ly_x_arr (c := n) (k := sz) hn (by show n < 3000; omega) (by decide) (nI_pos (by omega)) ⟨nI_clamp (by omega), by show sz ≤ 3000; omega⟩) ?_
  refine nt_rn_b 6 (c' := (23, [(2, .ref n), (0, .ref S), (1, .int (nI sz))], [.ref S, .int (Int32.ofInt 0), .ref n, .int (Int32.ofInt 0), .ref S], nt_nw M 13 sz sz)) rfl ?_
  refine nt_rn_s (c' := (24, [(2, .ref n), (0, .ref S), (1, .int (nI sz))], [.int (nI (nt_l (nt_nw M 13 sz sz) S)), .int (Int32.ofInt 0), .ref n, .int (Int32.ofInt 0), .ref S], nt_nw M 13 sz sz)) (e := (23, .arraylength, 0, 0)) rfl rfl (nt_x_len (by show S < nt_n (nt_nw M 13 sz sz); omega) (by show nt_n (nt_nw M 13 sz sz) ≤ 3000; omega) (by show 12 ≤ nt_k (nt_nw M 13 sz sz) S; omega) (by show nt_k (nt_nw M 13 sz sz) S < 18; omega)) ?_
  rw [lS2]
  refine nt_rn_b 1 (c' := (25, [(2, .ref n), (0, .ref S), (1, .int (nI sz))], [.int (nI sz), .int (nI 400), .int (Int32.ofInt 0), .ref n, .int (Int32.ofInt 0), .ref S], nt_nw M 13 sz sz)) rfl ?_
  refine nt_rn_n (g := 1003) (q := 0) (c' := (28, [(2, .ref n), (0, .ref S), (1, .int (nI sz))], [.int (nI sz), .int (Int32.ofInt 0), .ref n, .int (Int32.ofInt 0), .ref S], nt_nw M 13 sz sz)) (e := (25, .invokestatic 304, 1003, 0)) rfl rfl (by decide) (Or.inl ⟨_, rfl, rfl⟩) ?_ ?_
  · show (if 1 ≤ d + 1 ∧ nt_ct [Value.int (Int32.ofInt 0), Value.ref n, Value.int (Int32.ofInt 0), Value.ref S] ≤ 8 then some ((28, ([(2, Value.ref n), (0, Value.ref S), (1, Value.int (nI sz))], Value.int (if nI sz < nI 400 then nI sz else nI 400) :: [Value.int (Int32.ofInt 0), Value.ref n, Value.int (Int32.ofInt 0), Value.ref S], nt_nw M 13 sz sz)) : nt_C) else none) = _
    rw [if_pos ⟨by omega, Nat.le_of_ble_eq_true rfl⟩, if_pos (nI_lt h4 (by omega))]
  refine nt_rn_n (g := 1001) (q := 0) (c' := (31, [(2, .ref n), (0, .ref S), (1, .int (nI sz))], [], nt_wI (nt_nw M 13 sz sz) n (va_cpy (nt_I (nt_nw M 13 sz sz) S) (nt_I (nt_nw M 13 sz sz) n) 0 0 sz))) (e := (28, .invokestatic 150, 1001, 0)) rfl rfl (by decide) (Or.inl ⟨_, rfl, rfl⟩) ?_ ?_
  · have ec : (nI sz).toNatClampNeg = sz := nI_clamp (by omega)
    have e0 : (Int32.ofInt 0).toNatClampNeg = 0 := rfl
    show (if 1 ≤ d + 1 ∧ nt_ct [] ≤ 8 ∧ S < nt_n (nt_nw M 13 sz sz) ∧ n < nt_n (nt_nw M 13 sz sz) ∧ nt_k (nt_nw M 13 sz sz) S = nt_k (nt_nw M 13 sz sz) n ∧ (nt_k (nt_nw M 13 sz sz) S = 13 ∨ nt_k (nt_nw M 13 sz sz) S = 15) ∧ ¬ Int32.ofInt 0 < 0 ∧ ¬ Int32.ofInt 0 < 0 ∧ ¬ nI sz < 0 ∧ (Int32.ofInt 0).toNatClampNeg + (nI sz).toNatClampNeg ≤ nt_l (nt_nw M 13 sz sz) S ∧ (Int32.ofInt 0).toNatClampNeg + (nI sz).toNatClampNeg ≤ nt_l (nt_nw M 13 sz sz) n then some (31, [(2, Value.ref n), (0, .ref S), (1, .int (nI sz))], [], nt_wI (nt_nw M 13 sz sz) n (va_cpy (nt_I (nt_nw M 13 sz sz) S) (nt_I (nt_nw M 13 sz sz) n) (Int32.ofInt 0).toNatClampNeg (Int32.ofInt 0).toNatClampNeg (nI sz).toNatClampNeg)) else none) = _
    rw [ec, e0, if_pos ⟨by omega, by decide, by omega, by omega, by rw [kS2, kn2], Or.inl kS2, by decide, by decide, nI_pos (by omega), by rw [lS2]; omega, by rw [ln2]; omega⟩]
  refine nt_rn_b 1 (c' := (32, [(2, .ref n), (0, .ref S), (1, .int (nI sz))], [.ref n], nt_wI (nt_nw M 13 sz sz) n (va_cpy (nt_I (nt_nw M 13 sz sz) S) (nt_I (nt_nw M 13 sz sz) n) 0 0 sz))) rfl ?_
  exact nt_rn_r (e := (32, .areturn, 0, 0)) rfl (Or.inr (Or.inr (Or.inl rfl))) rfl
/-- the rule that was read -/
theorem ly_made {X : nt_X} {d n R S sz : Nat} {M : nt_M} (hn : nt_n M = n) (hb : n < 1000) (hR : R < n) (kR : nt_k M R = 5) (hS : S < n) (kS : nt_k M S = 13) (lS : nt_l M S = 400) (rS : nt_R M R 1 = some S) (hz : nt_I M R 2 = nI sz) (h4 : sz < 400) : ∃ M' : nt_M, nt_ev X (d + 2) 62 [.ref R] M (some (.ref n), M') ∧ nt_n M' = n + 2 ∧ nt_z M' = nt_z M + 1 + sz ∧ (∀ p, p < n → nt_k M' p = nt_k M p ∧ nt_l M' p = nt_l M p ∧ nt_I M' p = nt_I M p ∧ nt_R M' p = nt_R M p) ∧ (nt_k M' n = 4 ∧ nt_l M' n = 0) ∧ (nt_k M' (n + 1) = 13 ∧ nt_l M' (n + 1) = sz) ∧ nt_R M' n 0 = some (n + 1) ∧ (∀ j, j < sz → nt_I M' (n + 1) j = nt_I M S j) := by
  obtain ⟨Ma, hMa⟩ : ∃ Ma, Ma = nt_nw M 4 0 (nt_N 4) := ⟨_, rfl⟩
  have na : nt_n Ma = n + 1 := by rw [hMa]; show nt_n M + 1 = n + 1; omega
  have olda : ∀ p, p < n → nt_k Ma p = nt_k M p ∧ nt_l Ma p = nt_l M p ∧ nt_I Ma p = nt_I M p ∧ nt_R Ma p = nt_R M p := by
    intro p hp
    rw [hMa]
    show (if p = nt_n M then 4 else nt_k M p) = _ ∧ (if p = nt_n M then 0 else nt_l M p) = _ ∧ (if p = nt_n M then (fun _ => 0) else nt_I M p) = _ ∧ (if p = nt_n M then (fun _ => none) else nt_R M p) = _
    rw [if_neg (by omega), if_neg (by omega), if_neg (by omega), if_neg (by omega)]
    exact ⟨rfl, rfl, rfl, rfl⟩
  have kna : nt_k Ma n = 4 ∧ nt_l Ma n = 0 := by
    rw [hMa]
    show (if n = nt_n M then 4 else nt_k M n) = 4 ∧ (if n = nt_n M then 0 else nt_l M n) = 0
    rw [if_pos hn.symm, if_pos hn.symm]
    exact ⟨rfl, rfl⟩
  obtain ⟨f, hf, hcp⟩ := ly_copyOf (X := X) (d := d) (n := n + 1) (S := S) (sz := sz) (M := Ma) na (by omega) (by omega) (by rw [(olda S hS).1]; exact kS) (by rw [(olda S hS).2.1]; exact lS) h4
  obtain ⟨Mb, hMb⟩ : ∃ Mb, Mb = nt_wI (nt_nw Ma 13 sz sz) (n + 1) f := ⟨_, rfl⟩
  rw [← hMb] at hcp
  have nb : nt_n Mb = n + 2 := by rw [hMb]; show nt_n Ma + 1 = n + 2; omega
  have oldb : ∀ p, p < n + 1 → nt_k Mb p = nt_k Ma p ∧ nt_l Mb p = nt_l Ma p ∧ nt_I Mb p = nt_I Ma p ∧ nt_R Mb p = nt_R Ma p := by
    intro p hp
    rw [hMb]
    show (if p = nt_n Ma then 13 else nt_k Ma p) = _ ∧ (if p = nt_n Ma then sz else nt_l Ma p) = _ ∧ (if p = n + 1 then f else (if p = nt_n Ma then (fun _ => 0) else nt_I Ma p)) = _ ∧ (if p = nt_n Ma then (fun _ => none) else nt_R Ma p) = _
    rw [if_neg (by omega), if_neg (by omega), if_neg (by omega), if_neg (by omega), if_neg (by omega)]
    exact ⟨rfl, rfl, rfl, rfl⟩
  have knb : nt_k Mb (n + 1) = 13 ∧ nt_l Mb (n + 1) = sz := by
    rw [hMb]
    show (if n + 1 = nt_n Ma then 13 else nt_k Ma (n + 1)) = 13 ∧ (if n + 1 = nt_n Ma then sz else nt_l Ma (n + 1)) = sz
    rw [if_pos na.symm, if_pos na.symm]
    exact ⟨rfl, rfl⟩
  have kb4 : nt_k Mb n = 4 := by rw [(oldb n (by omega)).1]; exact kna.1
  have zb : nt_z Mb = nt_z M + 1 + sz := by
    rw [hMb]
    show nt_z Ma + sz = _
    rw [hMa]
    rfl
  refine ⟨nt_sR Mb n 0 (some (n + 1)), ?_, nb, zb, fun p hp => ?_, ⟨kb4, ?_⟩, knb, ?_, fun j hj => ?_⟩
  · refine nt_rn_s (c' := (3, [(0, .ref R)], [.ref n], Ma)) (e := (0, .new 63, 4, 0)) rfl rfl (by rw [hMa]; exact ly_x_new (c := n) hn (by show n < 3000; omega) (by decide)) ?_
    refine nt_rn_b 2 (c' := (5, [(0, .ref R)], [.ref R, .ref n, .ref n], Ma)) rfl ?_
    refine nt_rn_s (c' := (8, [(0, .ref R)], [.ref S, .ref n, .ref n], Ma)) (e := (5, .getfield 9, 501, 0)) rfl rfl (nt_x_get (c := 5) (v := .ref S) (show R < nt_n Ma by omega) (by rw [(olda R hR).1]; exact kR) rfl (nt_gfR rfl (by rw [(olda R hR).2.2.2]; exact rS))) ?_
    refine nt_rn_b 1 (c' := (9, [(0, .ref R)], [.ref R, .ref S, .ref n, .ref n], Ma)) rfl ?_
    refine nt_rn_s (c' := (12, [(0, .ref R)], [.int (nI sz), .ref S, .ref n, .ref n], Ma)) (e := (9, .getfield 19, 502, 0)) rfl rfl (nt_x_get (c := 5) (v := .int (nI sz)) (show R < nt_n Ma by omega) (by rw [(olda R hR).1]; exact kR) rfl (by show Value.int (nt_I Ma R 2) = _; rw [(olda R hR).2.2.1, hz])) ?_
    refine nt_rn_c (g := 237) (q := 0) (vs := [.ref S, .int (nI sz)]) (rest := [.ref n, .ref n]) (e := (12, .invokestatic 65, 237, 0)) rfl rfl (Or.inl ⟨_, rfl, rfl⟩) rfl (fun h => by cases h) (fun h => by cases h) hcp ?_
    refine nt_rn_c (g := 46) (q := 2) (vs := [.ref n, .ref (n + 1)]) (rest := [.ref n]) (o1 := (none, nt_sR Mb n 0 (some (n + 1)))) (e := (15, .invokespecial 71, 46, 0)) rfl rfl (Or.inr (Or.inr ⟨_, rfl, rfl⟩)) rfl (fun h => by cases h) (fun _ => rfl) ?_ ?_
    · refine nt_rn_b 1 (c' := (1, [(0, .ref n), (1, .ref (n + 1))], [.ref n], Mb)) rfl ?_
      refine nt_rn_n (g := 1000) (q := 2) (c' := (4, [(0, .ref n), (1, .ref (n + 1))], [], Mb)) (e := (1, .invokespecial 1, 1000, 0)) rfl rfl (by decide) (Or.inr (Or.inr ⟨_, rfl, rfl⟩)) (ly_x_obj (by omega) (by decide)) ?_
      refine nt_rn_b 2 (c' := (6, [(0, .ref n), (1, .ref (n + 1))], [.ref (n + 1), .ref n], Mb)) rfl ?_
      refine nt_rn_s (c' := (9, [(0, .ref n), (1, .ref (n + 1))], [], nt_sR Mb n 0 (some (n + 1)))) (e := (6, .putfield 7, 400, 0)) rfl rfl (nt_x_put (c := 4) (M' := nt_sR Mb n 0 (some (n + 1))) (show n < nt_n Mb by omega) kb4 rfl rfl) ?_
      exact nt_rn_rv (e := (9, .return_, 0, 0)) rfl rfl rfl rfl
    · exact nt_rn_r (e := (18, .areturn, 0, 0)) rfl (Or.inr (Or.inr (Or.inl rfl))) rfl
  · have h1 := oldb p (by omega)
    have h2 := olda p hp
    refine ⟨h1.1.trans h2.1, h1.2.1.trans h2.2.1, h1.2.2.1.trans h2.2.2.1, ?_⟩
    funext j
    show (if p = n then (if j = 0 then some (n + 1) else nt_R Mb p j) else nt_R Mb p j) = _
    rw [if_neg (by omega), h1.2.2.2, h2.2.2.2]
  · show nt_l Mb n = 0
    rw [(oldb n (by omega)).2.1]
    exact kna.2
  · show (if n = n then (if 0 = 0 then some (n + 1) else nt_R Mb n 0) else nt_R Mb n 0) = _
    rw [if_pos rfl, if_pos rfl]
  · show nt_I Mb (n + 1) j = _
    rw [hMb]
    show (if n + 1 = n + 1 then f else (if n + 1 = nt_n Ma then (fun _ => 0) else nt_I Ma (n + 1))) j = _
    rw [if_pos rfl, hf j hj, (olda S hS).2.2.1]
end
section
/-! THE RULE of the class -/
theorem ly_vI {pl : Nat → Nat} {v : Nat → Int} {M : nt_M} (hB : ly_B pl v M) : (nt_I M (pl 16) 4).toInt = v 2 := ly_cell (g := 16) (j := 4) (u := 2) hB (by decide) (List.mem_of_getElem? (i := 2) rfl)
theorem ly_ref {pl : Nat → Nat} {v : Nat → Int} {M : nt_M} {g j k : Nat} (hB : ly_B pl v M) (hm : ((g, ((j : Int), [])), k + 1) ∈ ly_R) : nt_R M (pl g) j = some (pl k) := by
  have h := (hB.2.2.2 _ hm).2.2
  dsimp only at h
  rw [sx_c_e, show ((j : Int)).toNat = j from by omega] at h
  rw [h]
  unfold sx_rq
  rw [if_neg (by omega), Nat.add_sub_cancel]
/-- what the class's rule does to the tape and the count -/
def lq_R (X : nt_X) (pl : Nat → Nat) (v v' : Nat → Int) (d : Nat) (y : Int32) (M M' : nt_M) : Prop := (6 ≤ v 2 ∧ y = Int32.ofInt (-1) ∧ M' = M) ∨ (v 2 < 6 ∧ ∃ (x : Int32) (M1 : nt_M), nt_ev X d 48 [.ref (pl 21)] M (some (.int x), M1) ∧ nt_I M' (pl 17) 1 = Int32.ofInt 0 ∧ (∀ p j, p < nt_n M → p ≠ pl 17 → p ≠ pl 16 → nt_I M' p j = nt_I M1 p j) ∧ (∀ k, nt_R M' (pl 65) k = nt_R M (pl 65) k) ∧ ((x ≠ 0 ∧ y = Int32.ofInt (-2) - x ∧ v' 2 = v 2 ∧ (∀ j, nt_R M' (pl 23) j = nt_R M (pl 23) j) ∧ ∀ p, nt_l M' p = nt_l M p) ∨ (x = 0 ∧ v' 2 = v 2 + 1 ∧ ∃ u : Nat, v 2 = (u : Int) ∧ y = nI (u + 1) - Int32.ofInt 1 ∧ ∃ sz b : Nat, sz < 400 ∧ nt_I M1 (pl 21) 2 = nI sz ∧ 66 ≤ b ∧ nt_n M ≤ b ∧ (∀ j, nt_R M' (pl 23) j = if j = u then some b else nt_R M (pl 23) j) ∧ nt_l M' (b + 1) = sz ∧ (∀ j, j < sz → nt_I M' (b + 1) j = nt_I M1 (pl 22) j) ∧ ∀ p, p < nt_n M → nt_l M' p = nt_l M p)))
theorem ly_ruleC {X : nt_X} {K : sx_K} {pl : Nat → Nat} {v mk xi : Nat → Int} {M : nt_M} {d dl : Nat} {mo : List (Nat × Int × Int)} (hK : sx_KOK X (sx_tbs, sx_gps) K) (hKe : K = (48, dl, ly_D ++ [], (mo, []), [(2, 21, (0, []))], (ly_C ++ [], ly_R ++ [], (ly_b, []), 11), [(some (0, 0, (0, [(11, 1)])), (ly_C, ly_R, ([(11, 1, 2147483647)], []), 12)), (some (0, 0, (0, [])), (ly_C ++ [((21, (2, [])), (0, [(11, 1)]))], ly_R, ([(11, 0, 399)], []), 12))])) (hdl : dl ≤ d + 3) (hmo : mo.all (fun q => Nat.blt q.1 66) = true) (hB : ly_B pl v M) (hS : ly_S pl mk xi (v 2) M) : ∃ (y : Int32) (M' : nt_M) (v' : Nat → Int), nt_ev X (d + 4) 105 [.ref (pl 16)] M (some (.int y), M') ∧ ly_B pl v' M' ∧ ly_S pl mk xi (v' 2) M' ∧ (∀ s, s < 11 → s ≠ 2 → v' s = v s) ∧ nt_n M ≤ nt_n M' ∧ lq_R X pl v v' (d + 3) y M M' := by
  have hv2 := ly_ob hB (2, 0, 6) (List.mem_of_getElem? (i := 2) rfl)
  dsimp only at hv2
  have g16 := hB.2.1.2 16 _ (show ly_E.2.1[16]? = some (10, 0, 0, 8) from rfl)
  have rc0 := ly_vI hB
  have e6 : (Int32.ofInt 6).toInt = 6 := by decide
  by_cases c6 : v 2 < 6
  · -- it is read
    have rr := ly_ref (g := 16) (j := 2) (k := 21) hB (List.mem_of_getElem? (i := 2) rfl)
    have g21 := hB.2.1.2 21 _ (show ly_E.2.1[21]? = some (5, 0, 0, 6) from rfl)
    have hij : sx_ij (sx_KE (sx_tbs, sx_gps) K) pl := by
      intro a b ha hb e
      rw [hKe] at ha hb
      have ha : a < (ly_D ++ []).length := ha
      have hb : b < (ly_D ++ []).length := hb
      rw [List.append_nil] at ha hb
      exact hB.1 a b ha hb e
    have hon := ly_app (r := v) hKe hB (fun _ _ => rfl) (fun _ _ => rfl) hij ly_nil (fun q hq => by cases hq) (fun q hq => by cases hq) (ly_ob hB) ly_oc0
    subst hKe
    obtain ⟨o, k1, p, hp, r', k2, k3⟩ := ly_run hK hdl (vs := [.ref (pl 21)]) ⟨rfl, trivial⟩ hon
    have hr' : ∀ s, s < 11 → r' s = v s := fun s hs => k3.2.2.2.2.2.1 s hs
    have fr : ly_fr 66 pl M o.2 := ly_frm (n := 66) (Nat.le_of_eq rfl) (Nat.le_refl _) hij hmo rfl k3.2.2.2.2.2.2
    obtain ⟨ov, M1⟩ := o
    have fr : ly_fr 66 pl M M1 := fr
    have hS1 : ly_S pl mk xi (v 2) M1 := ly_S_fr fr hS
    obtain ⟨x, hB1, hov, hx⟩ : ∃ x : Int32, ly_B pl v M1 ∧ ov = some (.int x) ∧ (x ≠ 0 ∨ x = 0 ∧ 0 ≤ (nt_I M1 (pl 21) 2).toInt ∧ (nt_I M1 (pl 21) 2).toInt ≤ 399) := by
      rcases List.mem_cons.mp hp with rfl | hp
      · cases ov with
        | none => exact k2.elim
        | some w =>
          obtain ⟨x, rfl, hx⟩ := k2
          have b := k3.2.2.2.2.1.1 (11, 1, 2147483647) (List.Mem.head _)
          dsimp only at b
          rw [sx_s_e] at hx
          exact ⟨x, ly_bk (ed := []) rfl rfl (fun _ _ => rfl) k3 (ly_oiC (more := []) (fun _ _ => rfl) rfl k3.2.2.1 hr') (ly_or2 (more := []) (fun _ _ => rfl) k3.2.2.2.1), rfl, Or.inl (fun e => by rw [e] at hx; have : (0 : Int) = r' 11 := hx; omega)⟩
      · rw [List.mem_singleton.mp hp] at k2 k3
        cases ov with
        | none => exact k2.elim
        | some w =>
          obtain ⟨x, rfl, hx⟩ := k2
          have b := k3.2.2.2.2.1.1 (11, 0, 399) (List.Mem.head _)
          dsimp only at b
          rw [sx_c_e] at hx
          have h := (k3.2.2.1 ((21, (2, [])), (0, [(11, 1)])) (List.mem_append_right _ (List.Mem.head _))).2
          dsimp only at h
          rw [sx_c_e, sx_s_e] at h
          unfold sx_rd at h
          rw [if_neg (by decide), if_neg (by decide)] at h
          have h : (nt_I M1 (pl 21) 2).toInt = r' 11 := h
          exact ⟨x, ly_bk (ed := []) rfl rfl (fun _ _ => rfl) k3 (ly_oiC (fun _ _ => rfl) rfl k3.2.2.1 hr') (ly_or2 (more := []) (fun _ _ => rfl) k3.2.2.2.1), rfl, Or.inr ⟨Int32.toInt_inj.mp hx, by omega, by omega⟩⟩
    subst hov
    -- the tape is empty then
    obtain ⟨M2, hM2⟩ : ∃ M2, M2 = nt_sI M1 (pl 17) 1 (Int32.ofInt 0) := ⟨_, rfl⟩
    have hB2 : ly_B pl v M2 := by
      rw [hM2]
      refine ly_B_wI (q := (7, 0, 0, 4)) hB1 rfl (by decide) (by show (0 : Int) ≤ 0 ∧ (0 : Int) ≤ 400; decide) (fun c hc => ⟨fun z => ?_, fun _ => rfl⟩)
      have l := List.all_eq_true.mp (show ly_C.all (fun c => !Nat.beq c.1.1 17) = true from by decide +kernel) c hc
      rw [z.1] at l
      cases l
    have hS2 : ly_S pl mk xi (v 2) M2 := by
      refine ly_S_fr (M := M1) ?_ hS1
      rw [hM2]
      refine ⟨⟨rfl, rfl, rfl, rfl⟩, fun a ha => ⟨fun j => ?_, fun j => rfl⟩, fun g j hg => rfl⟩
      show (if a = pl 17 then (if j = 1 then Int32.ofInt 0 else nt_I M1 a j) else nt_I M1 a j) = _
      rw [if_neg (ha 17 (by omega))]
    have g16a := hB1.2.1.2 16 _ (show ly_E.2.1[16]? = some (10, 0, 0, 8) from rfl)
    have g17a := hB1.2.1.2 17 _ (show ly_E.2.1[17]? = some (7, 0, 0, 4) from rfl)
    have rt := ly_ref (g := 16) (j := 0) (k := 17) hB1 (List.mem_of_getElem? (i := 0) rfl)
    have head : ∀ r, nt_rn X (d + 4) 105 (27, [(1, .int x), (0, .ref (pl 16))], [], M2) r → nt_rn X (d + 4) 105 (0, [(0, .ref (pl 16))], [], M) r := by
      intro r h
      refine nt_rn_b 1 (c' := (1, [(0, .ref (pl 16))], [.ref (pl 16)], M)) rfl ?_
      refine nt_rn_s (c' := (4, [(0, .ref (pl 16))], [.int (nt_I M (pl 16) 4)], M)) (e := (1, .getfield 98, 1004, 0)) rfl rfl (nt_x_get (c := 10) (v := .int (nt_I M (pl 16) 4)) g16.1 g16.2.1 rfl rfl) ?_
      refine nt_rn_b 2 (c' := (if nt_I M (pl 16) 4 < Int32.ofInt 6 then 11 else 9, [(0, .ref (pl 16))], [], M)) rfl ?_
      rw [if_pos (by rw [sx_lt32, rc0, e6]; exact c6)]
      refine nt_rn_b 1 (c' := (12, [(0, .ref (pl 16))], [.ref (pl 16)], M)) rfl ?_
      refine nt_rn_s (c' := (15, [(0, .ref (pl 16))], [.ref (pl 21)], M)) (e := (12, .getfield 33, 1002, 0)) rfl rfl (nt_x_get (c := 10) (v := .ref (pl 21)) g16.1 g16.2.1 rfl (nt_gfR rfl rr)) ?_
      refine nt_rn_c (g := 48) (q := 1) (vs := [.ref (pl 21)]) (rest := []) (e := (15, .invokevirtual 101, 48, 0)) rfl rfl (Or.inr (Or.inl ⟨_, rfl, rfl⟩)) rfl (fun _ => nt_rcI g21.1 g21.2.1) (fun h => by cases h) k1 ?_
      refine nt_rn_b 2 (c' := (20, [(1, .int x), (0, .ref (pl 16))], [.ref (pl 16)], M1)) rfl ?_
      refine nt_rn_s (c' := (23, [(1, .int x), (0, .ref (pl 16))], [.ref (pl 17)], M1)) (e := (20, .getfield 10, 1000, 0)) rfl rfl (nt_x_get (c := 10) (v := .ref (pl 17)) g16a.1 g16a.2.1 rfl (nt_gfR rfl rt)) ?_
      refine nt_rn_b 1 (c' := (24, [(1, .int x), (0, .ref (pl 16))], [.int (Int32.ofInt 0), .ref (pl 17)], M1)) rfl ?_
      refine nt_rn_s (c' := (27, [(1, .int x), (0, .ref (pl 16))], [], M2)) (e := (24, .putfield 71, 701, 0)) rfl rfl (nt_x_put (c := 7) (M' := M2) g17a.1 g17a.2.1 rfl (by rw [hM2]; rfl)) ?_
      exact h
    by_cases x0 : x = 0
    · -- no fault: it is made
      obtain ⟨s0, s1⟩ : 0 ≤ (nt_I M1 (pl 21) 2).toInt ∧ (nt_I M1 (pl 21) 2).toInt ≤ 399 := by
        rcases hx with h | h
        · exact absurd x0 h
        · exact h.2
      obtain ⟨⟨p1, p2, p3, p4⟩, ⟨p5, p6⟩, T, p7, p8⟩ := hS2
      have mk01 : ∀ i, i < 4 → 0 ≤ mk i ∧ mk i ≤ 1 := by
        intro i hi
        rcases p7 i hi with ⟨_, c⟩ | ⟨a, _, c, _⟩ <;> omega
      have m0 := mk01 0 (by omega)
      have m1 := mk01 1 (by omega)
      have m2 := mk01 2 (by omega)
      have m3 := mk01 3 (by omega)
      obtain ⟨n, hn⟩ : ∃ n, nt_n M2 = n := ⟨_, rfl⟩
      rw [hn] at p4 p5
      obtain ⟨sz, hsz⟩ : ∃ sz : Nat, (nt_I M1 (pl 21) 2).toInt = (sz : Int) := ⟨(nt_I M1 (pl 21) 2).toInt.toNat, by omega⟩
      have n1721 : pl 21 ≠ pl 17 := fun e => absurd (hB.1 21 17 (by show 21 < 66; omega) (by show 17 < 66; omega) e) (by decide)
      have hz2 : nt_I M2 (pl 21) 2 = nI sz := by
        rw [hM2]
        show (if pl 21 = pl 17 then (if 2 = 1 then Int32.ofInt 0 else nt_I M1 (pl 21) 2) else nt_I M1 (pl 21) 2) = _
        rw [if_neg n1721]
        exact Int32.toInt_inj.mp (by rw [nI_toInt (by omega)]; exact hsz)
      have q16 := p1 16 (by omega)
      have q21 := p1 21 (by omega)
      have q22 := p1 22 (by omega)
      have q23 := p1 23 (by omega)
      have q65 := p1 65 (by omega)
      have G16 := hB2.2.1.2 16 _ (show ly_E.2.1[16]? = some (10, 0, 0, 8) from rfl)
      have G21 := hB2.2.1.2 21 _ (show ly_E.2.1[21]? = some (5, 0, 0, 6) from rfl)
      have G22 := hB2.2.1.2 22 _ (show ly_E.2.1[22]? = some (13, 400, 400, 0) from rfl)
      have G23 := hB2.2.1.2 23 _ (show ly_E.2.1[23]? = some (16, 6, 6, 0) from rfl)
      have r22 := ly_ref (g := 21) (j := 1) (k := 22) hB2 (List.mem_of_getElem? (i := 11) rfl)
      have r23 := ly_ref (g := 16) (j := 3) (k := 23) hB2 (List.mem_of_getElem? (i := 3) rfl)
      have r21 := ly_ref (g := 16) (j := 2) (k := 21) hB2 (List.mem_of_getElem? (i := 2) rfl)
      have l22 : nt_l M2 (pl 22) = 400 := by have := G22.2.2.1; dsimp only at this; omega
      have l23 : nt_l M2 (pl 23) = 6 := by have := G23.2.2.1; dsimp only at this; omega
      obtain ⟨M3, hmade, n3, z3, old, kn, kn1, rn, cont⟩ := ly_made (X := X) (d := d + 1) (R := pl 21) (S := pl 22) (sz := sz) hn (by omega) (by omega) G21.2.1 (by omega) G22.2.1 l22 r22 hz2 (by omega)
      have rc2 := ly_vI hB2
      obtain ⟨u, hu⟩ : ∃ u : Nat, v 2 = (u : Int) := ⟨(v 2).toNat, by omega⟩
      have rcI : nt_I M2 (pl 16) 4 = nI u := Int32.toInt_inj.mp (by rw [nI_toInt (by omega), rc2]; exact hu)
      have n2316 : pl 23 ≠ pl 16 := fun e => absurd (hB.1 23 16 (by show 23 < 66; omega) (by show 16 < 66; omega) e) (by decide)
      have n6523 : pl 65 ≠ pl 23 := fun e => absurd (hB.1 65 23 (by show 65 < 66; omega) (by show 23 < 66; omega) e) (by decide)
      obtain ⟨M4, hM4⟩ : ∃ M4, M4 = nt_sR M3 (pl 23) u (some n) := ⟨_, rfl⟩
      have R4 : ∀ p j, p ≠ pl 23 → nt_R M4 p j = nt_R M3 p j := fun p j hp => by
        rw [hM4]
        show (if p = pl 23 then (if j = u then some n else nt_R M3 p j) else nt_R M3 p j) = _
        rw [if_neg hp]
      have R423 : ∀ j, nt_R M4 (pl 23) j = if j = u then some n else nt_R M2 (pl 23) j := fun j => by
        rw [hM4]
        show (if pl 23 = pl 23 then (if j = u then some n else nt_R M3 (pl 23) j) else nt_R M3 (pl 23) j) = _
        rw [if_pos rfl, (old _ (by omega)).2.2.2]
      have o4 : ∀ p, p < n → nt_k M4 p = nt_k M2 p ∧ nt_l M4 p = nt_l M2 p ∧ nt_I M4 p = nt_I M2 p := fun p hp => by
        rw [hM4]
        exact ⟨(old p hp).1, (old p hp).2.1, (old p hp).2.2.1⟩
      have n4 : nt_n M4 = n + 2 := by rw [hM4]; exact n3
      have hB4 : ly_B pl v M4 := by
        refine ly_B_eq hB2 (by omega) (by show nt_n M4 ≤ 3000; omega) (fun g hg => (o4 _ (by have := p1 g hg; omega)).1) (fun g hg => (o4 _ (by have := p1 g hg; omega)).2.1) (fun g hg j => by rw [(o4 _ (by have := p1 g hg; omega)).2.2]) (fun g hg h23 _ j => ?_)
        have := p1 g hg
        rw [R4 _ _ (fun e => h23 (hB.1 g 23 hg (by show 23 < 66; omega) e)), (old _ (by omega)).2.2.2]
      obtain ⟨M5, hM5⟩ : ∃ M5, M5 = nt_sI M4 (pl 16) 4 (nI (u + 1)) := ⟨_, rfl⟩
      have hB5 : ly_B pl (fun s => if s = 2 then v 2 + 1 else v s) M5 := by
        rw [hM5]
        refine ly_B_wI (q := (10, 0, 0, 8)) hB4 rfl (by decide) (by rw [nI_toInt (by omega)]; show (0 : Int) ≤ _ ∧ _ ≤ (6 : Int); omega) (fun c hc => ⟨fun z => ?_, fun z => ?_⟩)
        · rw [nI_toInt (by omega)]
          have l := List.all_eq_true.mp (show ly_C.all (fun c => !(Nat.beq c.1.1 16) || sx_leq c.2 (0, [(2, 1)])) = true from by decide +kernel) c hc
          rw [z.1, Bool.or_eq_true] at l
          rcases l with l | l
          · cases l
          · rw [sx_leq_ok l, sx_s_e]
            show v 2 + 1 = _
            omega
        · have l := List.all_eq_true.mp (show ly_C.all (fun c => (Nat.beq c.1.1 16 && sx_leq c.1.2 (4, [])) || c.2.2.all (fun q => !Nat.beq q.1 2)) = true from by decide +kernel) c hc
          rw [Bool.or_eq_true, Bool.and_eq_true] at l
          rcases l with l | l
          · exact absurd ⟨Nat.eq_of_beq_eq_true l.1, sx_leq_ok l.2⟩ z
          · have key : ∀ t : List (Nat × Int), t.all (fun q => !Nat.beq q.1 2) = true → sx_t (fun s => if s = 2 then v 2 + 1 else v s) t = sx_t v t := by
              intro t
              induction t with
              | nil => intro _; rfl
              | cons q t ih =>
                intro ht
                rw [List.all_cons, Bool.and_eq_true, Bool.not_eq_true'] at ht
                show q.2 * (if q.1 = 2 then v 2 + 1 else v q.1) + sx_t _ t = q.2 * v q.1 + sx_t v t
                rw [ih ht.2, if_neg (fun e => by rw [e] at ht; exact absurd ht.1 (by decide))]
            show c.2.1 + sx_t _ c.2.2 = c.2.1 + sx_t v c.2.2
            rw [key _ l]
      have I5 : ∀ p j, p ≠ pl 16 → nt_I M5 p j = nt_I M4 p j := fun p j hp => by
        rw [hM5]
        show (if p = pl 16 then (if j = 4 then nI (u + 1) else nt_I M4 p j) else nt_I M4 p j) = _
        rw [if_neg hp]
      have R5 : nt_R M5 = nt_R M4 := by rw [hM5]; rfl
      have n5 : nt_n M5 = n + 2 := by rw [hM5]; exact n4
      have k5 : ∀ p, nt_k M5 p = nt_k M4 p ∧ nt_l M5 p = nt_l M4 p := fun p => by rw [hM5]; exact ⟨rfl, rfl⟩
      have z5 : nt_z M5 = nt_z M2 + 1 + sz := by rw [hM5, hM4]; exact z3
      have I5n : (nt_I M5 (pl 16) 4) = nI (u + 1) := by
        rw [hM5]
        show (if pl 16 = pl 16 then (if 4 = 4 then nI (u + 1) else nt_I M4 (pl 16) 4) else nt_I M4 (pl 16) 4) = _
        rw [if_pos rfl, if_pos rfl]
      have q17 : nt_I M5 (pl 17) 1 = Int32.ofInt 0 := by
        rw [I5 _ _ (fun e => absurd (hB.1 17 16 (by show 17 < 66; omega) (by show 16 < 66; omega) e) (by decide)), (o4 _ (by have := p1 17 (by omega); omega)).2.2, hM2]
        show (if pl 17 = pl 17 then (if 1 = 1 then Int32.ofInt 0 else nt_I M1 (pl 17) 1) else nt_I M1 (pl 17) 1) = _
        rw [if_pos rfl, if_pos rfl]
      have qo : ∀ p j, p < nt_n M → p ≠ pl 17 → p ≠ pl 16 → nt_I M5 p j = nt_I M1 p j := by
        intro p j hp h17 h16
        have hn0 : nt_n M2 = nt_n M := by rw [hM2]; exact fr.1.1
        rw [I5 _ _ h16, (o4 _ (by omega)).2.2, hM2]
        show (if p = pl 17 then (if j = 1 then Int32.ofInt 0 else nt_I M1 p j) else nt_I M1 p j) = _
        rw [if_neg h17]
      have qr : ∀ k, nt_R M5 (pl 65) k = nt_R M (pl 65) k := by
        intro k
        rw [R5, R4 _ _ n6523, (old _ (by omega)).2.2.2, hM2]
        show nt_R M1 (pl 65) k = _
        exact fr.2.2 65 k (Or.inr rfl)
      have s21 : nt_I M1 (pl 21) 2 = nI sz := Int32.toInt_inj.mp (by rw [nI_toInt (by omega)]; exact hsz)
      have nM : nt_n M = n := by
        rw [← hn, hM2]
        exact fr.1.1.symm
      have q23' : ∀ j, nt_R M5 (pl 23) j = if j = u then some n else nt_R M (pl 23) j := fun j => by
        rw [R5, R423, show nt_R M2 (pl 23) j = nt_R M (pl 23) j from by rw [hM2]; exact fr.2.2 23 j (Or.inl rfl)]
      have ql : nt_l M5 (n + 1) = sz := by
        rw [(k5 _).2, hM4]
        exact kn1.2
      have n2217 : pl 22 ≠ pl 17 := fun e => absurd (hB.1 22 17 (by show 22 < 66; omega) (by show 17 < 66; omega) e) (by decide)
      have qc : ∀ j, j < sz → nt_I M5 (n + 1) j = nt_I M1 (pl 22) j := fun j hj => by
        rw [I5 _ _ (by omega), hM4]
        show nt_I M3 (n + 1) j = _
        rw [cont j hj, hM2]
        show (if pl 22 = pl 17 then (if j = 1 then Int32.ofInt 0 else nt_I M1 (pl 22) j) else nt_I M1 (pl 22) j) = _
        rw [if_neg n2217]
      have qld : ∀ p, p < nt_n M → nt_l M5 p = nt_l M p := fun p hp => by
        rw [(k5 p).2, (o4 p (by omega)).2.1, hM2]
        show nt_l M1 p = _
        exact congrFun fr.1.2.2.2 p
      refine ⟨nI (u + 1) - Int32.ofInt 1, M5, _, head _ ?_, hB5, ?_, fun s _ hs => if_neg hs, by omega, Or.inr ⟨c6, x, M1, k1, q17, qo, qr, Or.inr ⟨x0, if_pos rfl, u, hu, rfl, sz, n, by omega, s21, by omega, by omega, q23', ql, qc, qld⟩⟩⟩
      · refine nt_rn_b 2 (c' := (if x = 0 then 36 else 31, [(1, .int x), (0, .ref (pl 16))], [], M2)) rfl ?_
        rw [if_pos x0]
        refine nt_rn_b 1 (c' := (37, [(1, .int x), (0, .ref (pl 16))], [.ref (pl 16)], M2)) rfl ?_
        refine nt_rn_s (c' := (40, [(1, .int x), (0, .ref (pl 16))], [.ref (pl 23)], M2)) (e := (37, .getfield 39, 1003, 0)) rfl rfl (nt_x_get (c := 10) (v := .ref (pl 23)) G16.1 G16.2.1 rfl (nt_gfR rfl r23)) ?_
        refine nt_rn_b 1 (c' := (41, [(1, .int x), (0, .ref (pl 16))], [.ref (pl 16), .ref (pl 23)], M2)) rfl ?_
        refine nt_rn_s (c' := (44, [(1, .int x), (0, .ref (pl 16))], [.int (nI u), .ref (pl 23)], M2)) (e := (41, .getfield 98, 1004, 0)) rfl rfl (nt_x_get (c := 10) (v := .int (nI u)) G16.1 G16.2.1 rfl (by show Value.int (nt_I M2 (pl 16) 4) = _; rw [rcI])) ?_
        refine nt_rn_b 1 (c' := (45, [(1, .int x), (0, .ref (pl 16))], [.ref (pl 16), .int (nI u), .ref (pl 23)], M2)) rfl ?_
        refine nt_rn_s (c' := (48, [(1, .int x), (0, .ref (pl 16))], [.ref (pl 21), .int (nI u), .ref (pl 23)], M2)) (e := (45, .getfield 33, 1002, 0)) rfl rfl (nt_x_get (c := 10) (v := .ref (pl 21)) G16.1 G16.2.1 rfl (nt_gfR rfl r21)) ?_
        refine nt_rn_c (g := 62) (q := 1) (vs := [.ref (pl 21)]) (rest := [.int (nI u), .ref (pl 23)]) (e := (48, .invokevirtual 104, 62, 0)) rfl rfl (Or.inr (Or.inl ⟨_, rfl, rfl⟩)) rfl (fun _ => nt_rcI G21.1 G21.2.1) (fun h => by cases h) hmade ?_
        refine nt_rn_s (c' := (52, [(1, .int x), (0, .ref (pl 16))], [], M4)) (e := (51, .aastore, 0, 0)) rfl rfl ?_ ?_
        · have k23 : nt_k M3 (pl 23) = 16 := by rw [(old _ (by omega)).1]; exact G23.2.1
          show (if n < nt_n M3 ∧ (nt_k M3 (pl 23) = 16 ∧ nt_k M3 n = 4 ∨ nt_k M3 (pl 23) = 17 ∧ nt_k M3 n = 6) then nt_in M3 (pl 23) (nt_k M3 (pl 23)) (nI u) (some (52, _, [], nt_sR M3 (pl 23) (nI u).toNatClampNeg (some n))) else none) = _
          rw [if_pos ⟨by omega, Or.inl ⟨k23, kn.1⟩⟩, nt_inI (i := u) (by omega) rfl rfl (by rw [(old _ (by omega)).2.1, l23]; omega) (by rw [(old _ (by omega)).2.1, l23]; decide), nI_clamp (by omega), hM4]
        · have k416 : nt_k M4 (pl 16) = 10 := by rw [(o4 _ (by omega)).1]; exact G16.2.1
          have k516 : nt_k M5 (pl 16) = 10 := by rw [(k5 _).1]; exact k416
          refine nt_rn_b 2 (c' := (54, [(1, .int x), (0, .ref (pl 16))], [.ref (pl 16), .ref (pl 16)], M4)) rfl ?_
          refine nt_rn_s (c' := (57, [(1, .int x), (0, .ref (pl 16))], [.int (nI u), .ref (pl 16)], M4)) (e := (54, .getfield 98, 1004, 0)) rfl rfl (nt_x_get (c := 10) (v := .int (nI u)) (show pl 16 < nt_n M4 by omega) k416 rfl (by show Value.int (nt_I M4 (pl 16) 4) = _; rw [(o4 _ (by omega)).2.2, rcI])) ?_
          refine nt_rn_b 2 (c' := (59, [(1, .int x), (0, .ref (pl 16))], [.int (nI u + Int32.ofInt 1), .ref (pl 16)], M4)) rfl ?_
          rw [show nI u + Int32.ofInt 1 = nI (u + 1) from nI_1 u]
          refine nt_rn_s (c' := (62, [(1, .int x), (0, .ref (pl 16))], [], M5)) (e := (59, .putfield 98, 1004, 0)) rfl rfl (nt_x_put (c := 10) (M' := M5) (show pl 16 < nt_n M4 by omega) k416 rfl (by rw [hM5]; rfl)) ?_
          refine nt_rn_b 1 (c' := (63, [(1, .int x), (0, .ref (pl 16))], [.ref (pl 16)], M5)) rfl ?_
          refine nt_rn_s (c' := (66, [(1, .int x), (0, .ref (pl 16))], [.int (nI (u + 1))], M5)) (e := (63, .getfield 98, 1004, 0)) rfl rfl (nt_x_get (c := 10) (v := .int (nI (u + 1))) (show pl 16 < nt_n M5 by omega) k516 rfl (by show Value.int (nt_I M5 (pl 16) 4) = _; rw [I5n])) ?_
          refine nt_rn_b 2 (c' := (68, [(1, .int x), (0, .ref (pl 16))], [.int (nI (u + 1) - Int32.ofInt 1)], M5)) rfl ?_
          exact nt_rn_ri (e := (68, .ireturn, 0, 0)) rfl rfl rfl rfl rfl
      · show ly_S pl mk xi (v 2 + 1) M5
        have blk : ∀ p, p < n → p ≠ pl 16 → p ≠ pl 23 → nt_k M5 p = nt_k M2 p ∧ nt_l M5 p = nt_l M2 p ∧ (∀ j, nt_I M5 p j = nt_I M2 p j) ∧ ∀ j, nt_R M5 p j = nt_R M2 p j := fun p hp h16 h23 => ⟨(k5 p).1.trans (o4 p hp).1, (k5 p).2.trans (o4 p hp).2.1, fun j => by rw [I5 p j h16, (o4 p hp).2.2], fun j => by rw [R5, R4 p j h23, (old p hp).2.2.2]⟩
        refine ⟨⟨p1, p2, p3, by omega⟩, ⟨by omega, by omega⟩, (fun p => if n ≤ p then 4 + u else T p), fun k' hk' => ?_, fun w hw => ?_⟩
        · rw [R5, R4 _ _ n6523, (old _ (by omega)).2.2.2]
          rcases p7 k' hk' with c | ⟨a, c1, c2, c3, c4, c5, c6'⟩
          · exact Or.inl c
          · rw [hn] at c4
            refine Or.inr ⟨a, c1, c2, c3, by omega, fun i hi => ?_, ?_⟩
            · show (if n ≤ a + i then 4 + u else T (a + i)) = k'
              rw [if_neg (by omega)]
              exact c5 i hi
            · obtain ⟨g1, g2, g3⟩ := c6'
              refine ⟨fun h q hq => ?_, fun q hq => ?_, ?_⟩
              · have hh : h < 17 := (List.getElem?_eq_some_iff.mp hq).1
                have o := blk (a + h) (by omega) (by omega) (by omega)
                have g := g1 h q hq
                rw [o.1, o.2.1]
                refine ⟨by omega, g.2.1, g.2.2.1, g.2.2.2.1, fun i => ?_⟩
                rw [o.2.2.1 i]
                exact g.2.2.2.2 i
              · have h17 := Nat.blt_eq.mp (List.all_eq_true.mp ly_RI_lt q hq)
                rw [(blk (a + (q.1.1 - 66)) (by omega) (by omega) (by omega)).2.2.2]
                exact g2 q hq
              · rw [(blk a (by omega) (by omega) (by omega)).2.2.1]
                exact g3
        · rw [R5, R423]
          by_cases ew : w = u
          · rw [if_pos ew]
            refine ⟨n, rfl, p4, by omega, ?_, ?_, fun h q hq => ?_, ?_⟩
            · show (if n ≤ n then 4 + u else T n) = 4 + w
              rw [if_pos (Nat.le_refl n), ew]
            · show (if n ≤ n + 1 then 4 + u else T (n + 1)) = 4 + w
              rw [if_pos (by omega), ew]
            · have kk : ∀ p, p ≠ pl 16 → nt_k M5 p = nt_k M3 p ∧ nt_l M5 p = nt_l M3 p := fun p _ => by rw [hM5, hM4]; exact ⟨rfl, rfl⟩
              rcases (by
                have hh : h < 2 := (List.getElem?_eq_some_iff.mp hq).1
                omega : h = 0 ∨ h = 1) with rfl | rfl
              · cases hq
                rw [(kk (n + 0) (by omega)).1, (kk (n + 0) (by omega)).2]
                have a1 : nt_k M3 (n + 0) = 4 := kn.1
                have a2 : nt_l M3 (n + 0) = 0 := kn.2
                rw [a1, a2]
                refine ⟨by omega, rfl, ⟨by decide, by decide⟩, by decide, fun i => ?_⟩
                have l1 := (nt_I M5 (n + 0) i).le_toInt
                have l2 := (nt_I M5 (n + 0) i).toInt_lt
                show (-2147483648 : Int) ≤ _ ∧ _ ≤ (2147483647 : Int)
                omega
              · cases hq
                rw [(kk (n + 1) (by omega)).1, (kk (n + 1) (by omega)).2, kn1.1, kn1.2]
                refine ⟨by omega, rfl, ⟨by dsimp only; omega, by dsimp only; omega⟩, by omega, fun i => ?_⟩
                have l1 := (nt_I M5 (n + 1) i).le_toInt
                have l2 := (nt_I M5 (n + 1) i).toInt_lt
                show (-2147483648 : Int) ≤ _ ∧ _ ≤ (2147483647 : Int)
                omega
            · rw [R5, R4 _ _ (by omega)]
              exact rn
          · rw [if_neg ew]
            obtain ⟨b, c1, c2, c3, c4, c5, c6', c7⟩ := p8 w (by omega)
            rw [hn] at c3
            refine ⟨b, c1, c2, by omega, by show (if n ≤ b then 4 + u else T b) = _; rw [if_neg (by omega)]; exact c4, by show (if n ≤ b + 1 then 4 + u else T (b + 1)) = _; rw [if_neg (by omega)]; exact c5, fun h q hq => ?_, ?_⟩
            · have hh : h < 2 := (List.getElem?_eq_some_iff.mp hq).1
              have o := blk (b + h) (by omega) (by omega) (by omega)
              have g := c6' h q hq
              rw [o.1, o.2.1]
              refine ⟨by omega, g.2.1, g.2.2.1, g.2.2.2.1, fun i => ?_⟩
              rw [o.2.2.1 i]
              exact g.2.2.2.2 i
            · rw [(blk b (by omega) (by omega) (by omega)).2.2.2]
              exact c7
    · have q17 : nt_I M2 (pl 17) 1 = Int32.ofInt 0 := by
        rw [hM2]
        show (if pl 17 = pl 17 then (if 1 = 1 then Int32.ofInt 0 else nt_I M1 (pl 17) 1) else nt_I M1 (pl 17) 1) = _
        rw [if_pos rfl, if_pos rfl]
      have qo : ∀ p j, p < nt_n M → p ≠ pl 17 → p ≠ pl 16 → nt_I M2 p j = nt_I M1 p j := by
        intro p j hp h17 h16
        rw [hM2]
        show (if p = pl 17 then (if j = 1 then Int32.ofInt 0 else nt_I M1 p j) else nt_I M1 p j) = _
        rw [if_neg h17]
      have qr : ∀ k, nt_R M2 (pl 65) k = nt_R M (pl 65) k := by
        intro k
        rw [hM2]
        show nt_R M1 (pl 65) k = _
        exact fr.2.2 65 k (Or.inr rfl)
      refine ⟨Int32.ofInt (-2) - x, M2, v, head _ ?_, hB2, hS2, fun _ _ _ => rfl, by rw [hM2]; exact Nat.le_of_eq fr.1.1.symm, Or.inr ⟨c6, x, M1, k1, q17, qo, qr, Or.inl ⟨x0, rfl, rfl, fun j => by rw [hM2]; exact fr.2.2 23 j (Or.inl rfl), fun p => by rw [hM2]; exact congrFun fr.1.2.2.2 p⟩⟩⟩
      refine nt_rn_b 2 (c' := (if x = 0 then 36 else 31, [(1, .int x), (0, .ref (pl 16))], [], M2)) rfl ?_
      rw [if_neg x0]
      refine nt_rn_b 3 (c' := (35, [(1, .int x), (0, .ref (pl 16))], [.int (Int32.ofInt (-2) - x)], M2)) rfl ?_
      exact nt_rn_ri (e := (35, .ireturn, 0, 0)) rfl rfl rfl rfl rfl
  · refine ⟨Int32.ofInt (-1), M, v, ?_, hB, hS, fun _ _ _ => rfl, Nat.le_refl _, Or.inl ⟨by omega, rfl, rfl⟩⟩
    refine nt_rn_b 1 (c' := (1, [(0, .ref (pl 16))], [.ref (pl 16)], M)) rfl ?_
    refine nt_rn_s (c' := (4, [(0, .ref (pl 16))], [.int (nt_I M (pl 16) 4)], M)) (e := (1, .getfield 98, 1004, 0)) rfl rfl (nt_x_get (c := 10) (v := .int (nt_I M (pl 16) 4)) g16.1 g16.2.1 rfl rfl) ?_
    refine nt_rn_b 2 (c' := (if nt_I M (pl 16) 4 < Int32.ofInt 6 then 11 else 9, [(0, .ref (pl 16))], [], M)) rfl ?_
    rw [if_neg (by rw [sx_lt32, rc0, e6]; exact c6)]
    refine nt_rn_b 1 (c' := (10, [(0, .ref (pl 16))], [.int (Int32.ofInt (-1))], M)) rfl ?_
    exact nt_rn_ri (e := (10, .ireturn, 0, 0)) rfl rfl rfl rfl rfl
end
section
/-! the law's start -/
theorem ly_x_anew {X : nt_X} {mi g t i pc c k : Nat} {ls : nt_V} {st : List Value} {M : nt_M} {x : Int32} (hn : nt_n M = c) (hc : c < nt_sp) (hg : g = 4 ∨ g = 6) (h0 : ¬ x < 0) (hx : x.toNatClampNeg = k ∧ k ≤ nt_sp) : nt_sx X mi g t (.anewarray i) pc ls (.int x :: st) M = some (pc + 3, ls, .ref c :: st, nt_nw M (if g = 4 then 16 else 17) k k) := by
  show (if (g = 4 ∨ g = 6) ∧ nt_n M < nt_sp ∧ ¬ x < 0 ∧ x.toNatClampNeg ≤ nt_sp then some (pc + 3, ls, Value.ref (nt_n M) :: st, nt_nw M (if g = 4 then 16 else 17) x.toNatClampNeg x.toNatClampNeg) else none) = _
  rw [if_pos ⟨hg, by rw [hn]; exact hc, h0, by rw [hx.1]; exact hx.2⟩, hn, hx.1]
def ly_io : List (Nat × Nat × Nat × Nat) := [(1, 50, 30, 65), (0, 15, 4, 4), (1, 50, 29, 64), (0, 13, 848, 848), (1, 50, 28, 63), (0, 13, 212, 212), (1, 50, 27, 62), (0, 13, 212, 212), (1, 50, 26, 61), (0, 14, 10, 10), (1, 50, 24, 60), (0, 14, 64, 64), (1, 50, 22, 59), (0, 13, 400, 400), (1, 50, 14, 58), (0, 13, 32, 32), (1, 50, 13, 57), (0, 13, 72, 72), (1, 50, 12, 56), (0, 13, 24, 24), (1, 50, 6, 55), (0, 13, 6, 6), (1, 50, 5, 54), (0, 13, 288, 288), (1, 50, 4, 53), (0, 13, 7, 7), (1, 50, 3, 52), (0, 13, 2400, 2400), (1, 50, 0, 51), (0, 12, 400, 400), (0, 11, 0, 31), (1, 0, 9, 49), (0, 17, 4, 4), (1, 0, 8, 32), (1, 32, 13, 48), (0, 13, 8, 8), (1, 32, 12, 47), (0, 15, 24, 24), (1, 32, 11, 46), (0, 13, 24, 24), (1, 32, 10, 45), (0, 13, 24, 24), (1, 32, 9, 44), (0, 13, 6, 6), (1, 32, 8, 43), (0, 13, 6, 6), (1, 32, 7, 42), (0, 13, 6, 6), (1, 32, 0, 33), (1, 33, 12, 41), (0, 13, 8, 8), (1, 33, 11, 40), (0, 13, 8, 8), (1, 33, 10, 39), (0, 13, 8, 8), (1, 33, 9, 38), (0, 13, 8, 8), (1, 33, 8, 37), (0, 13, 24, 24), (1, 33, 7, 36), (0, 13, 24, 24), (1, 33, 6, 35), (0, 13, 24, 24), (1, 33, 5, 34), (0, 13, 24, 24), (0, 8, 0, 13), (0, 6, 0, 14), (1, 0, 7, 15), (1, 15, 13, 31), (0, 13, 8, 8), (1, 15, 12, 30), (0, 15, 24, 24), (1, 15, 11, 29), (0, 13, 24, 24), (1, 15, 10, 28), (0, 13, 24, 24), (1, 15, 9, 27), (0, 13, 6, 6), (1, 15, 8, 26), (0, 13, 6, 6), (1, 15, 7, 25), (0, 13, 6, 6), (1, 15, 0, 16), (1, 16, 12, 24), (0, 13, 8, 8), (1, 16, 11, 23), (0, 13, 8, 8), (1, 16, 10, 22), (0, 13, 8, 8), (1, 16, 9, 21), (0, 13, 8, 8), (1, 16, 8, 20), (0, 13, 24, 24), (1, 16, 7, 19), (0, 13, 24, 24), (1, 16, 6, 18), (0, 13, 24, 24), (1, 16, 5, 17), (0, 13, 24, 24), (0, 8, 0, 13), (0, 6, 0, 14), (1, 0, 6, 12), (1, 12, 3, 14), (0, 13, 4, 4), (1, 12, 2, 13), (0, 13, 4, 4), (0, 1, 0, 4), (1, 0, 5, 8), (1, 8, 0, 9), (1, 9, 1, 11), (0, 14, 60, 60), (1, 9, 0, 10), (0, 14, 10, 10), (0, 3, 0, 4), (0, 0, 0, 1), (1, 0, 3, 7), (0, 16, 6, 6), (1, 0, 2, 5), (1, 5, 0, 3), (1, 5, 1, 6), (0, 13, 400, 400), (0, 5, 0, 4), (1, 0, 1, 4), (1, 4, 0, 3), (0, 9, 0, 2), (1, 3, 0, 1), (0, 2, 0, 3), (1, 0, 0, 1), (1, 1, 0, 2), (0, 12, 400, 400), (0, 7, 0, 2), (0, 10, 0, 10)]
theorem ly_i0 {X : nt_X} {d n : Nat} {M : nt_M} (hn : nt_n M = n) (hb : n + 100 < nt_sp) : nt_ev X (d + 1) 83 [.ref (n + 1)] (ly_fo n M (ly_io.drop 130)) (none, (ly_fo n M (ly_io.drop 128))) := by
  refine nt_rn_b 1 (c' := (1, [(0, .ref (n + 1))], [.ref (n + 1)], (ly_fo n M (ly_io.drop 130)))) rfl ?_
  refine nt_rn_n (g := 1000) (q := 2) (c' := (4, [(0, .ref (n + 1))], [], (ly_fo n M (ly_io.drop 130)))) (e := (1, .invokespecial 3, 1000, 0)) rfl rfl (by decide) (Or.inr (Or.inr ⟨_, rfl, rfl⟩)) (ly_x_obj (by omega) (Nat.le_of_ble_eq_true rfl)) ?_
  refine nt_rn_b 1 (c' := (5, [(0, .ref (n + 1))], [.ref (n + 1)], (ly_fo n M (ly_io.drop 130)))) rfl ?_
  refine nt_rn_b 1 (c' := (8, [(0, .ref (n + 1))], [.int (Int32.ofInt 400), .ref (n + 1)], (ly_fo n M (ly_io.drop 130)))) rfl ?_
  refine nt_rn_s (c' := (10, [(0, .ref (n + 1))], [.ref (n + 2), .ref (n + 1)], (ly_fo n M (ly_io.drop 129)))) (e := (8, .newarray .byte, 0, 0)) rfl rfl (ly_x_arr (c := n + 2) (k := 400) (by rw [ly_fo_n, hn]; rfl) (by omega) (by decide) (by decide) (by decide)) ?_
  refine nt_rn_s (c' := (13, [(0, .ref (n + 1))], [], (ly_fo n M (ly_io.drop 128)))) (e := (10, .putfield 9, 700, 0)) rfl rfl (nt_x_put (c := 7) (M' := (ly_fo n M (ly_io.drop 128))) (by rw [ly_fo_n, hn]; show n + 1 < n + 3; omega) (ly_fo_k (i := 1) (q := (7, 0)) (l := ly_io.drop 129) hn rfl).1 rfl rfl) ?_
  exact nt_rn_rv (e := (13, .return_, 0, 0)) rfl rfl rfl rfl
theorem ly_i1 {X : nt_X} {d n : Nat} {M : nt_M} (hn : nt_n M = n) (hb : n + 100 < nt_sp) : nt_ev X (d + 1) 27 [.ref (n + 3), .ref (n + 1)] (ly_fo n M (ly_io.drop 126)) (none, (ly_fo n M (ly_io.drop 125))) := by
  refine nt_rn_b 1 (c' := (1, [(0, .ref (n + 3)), (1, .ref (n + 1))], [.ref (n + 3)], (ly_fo n M (ly_io.drop 126)))) rfl ?_
  refine nt_rn_n (g := 1000) (q := 2) (c' := (4, [(0, .ref (n + 3)), (1, .ref (n + 1))], [], (ly_fo n M (ly_io.drop 126)))) (e := (1, .invokespecial 3, 1000, 0)) rfl rfl (by decide) (Or.inr (Or.inr ⟨_, rfl, rfl⟩)) (ly_x_obj (by omega) (Nat.le_of_ble_eq_true rfl)) ?_
  refine nt_rn_b 1 (c' := (5, [(0, .ref (n + 3)), (1, .ref (n + 1))], [.ref (n + 3)], (ly_fo n M (ly_io.drop 126)))) rfl ?_
  refine nt_rn_b 1 (c' := (6, [(0, .ref (n + 3)), (1, .ref (n + 1))], [.ref (n + 1), .ref (n + 3)], (ly_fo n M (ly_io.drop 126)))) rfl ?_
  refine nt_rn_s (c' := (9, [(0, .ref (n + 3)), (1, .ref (n + 1))], [], (ly_fo n M (ly_io.drop 125)))) (e := (6, .putfield 9, 200, 0)) rfl rfl (nt_x_put (c := 2) (M' := (ly_fo n M (ly_io.drop 125))) (by rw [ly_fo_n, hn]; show n + 3 < n + 4; omega) (ly_fo_k (i := 3) (q := (2, 0)) (l := ly_io.drop 126) hn rfl).1 rfl rfl) ?_
  exact nt_rn_rv (e := (9, .return_, 0, 0)) rfl rfl rfl rfl
theorem ly_i2 {X : nt_X} {d n : Nat} {M : nt_M} (hn : nt_n M = n) (hb : n + 100 < nt_sp) : nt_ev X (d + 1) 91 [.ref (n + 4), .ref (n + 3)] (ly_fo n M (ly_io.drop 124)) (none, (ly_fo n M (ly_io.drop 123))) := by
  refine nt_rn_b 1 (c' := (1, [(0, .ref (n + 4)), (1, .ref (n + 3))], [.ref (n + 4)], (ly_fo n M (ly_io.drop 124)))) rfl ?_
  refine nt_rn_n (g := 1000) (q := 2) (c' := (4, [(0, .ref (n + 4)), (1, .ref (n + 3))], [], (ly_fo n M (ly_io.drop 124)))) (e := (1, .invokespecial 3, 1000, 0)) rfl rfl (by decide) (Or.inr (Or.inr ⟨_, rfl, rfl⟩)) (ly_x_obj (by omega) (Nat.le_of_ble_eq_true rfl)) ?_
  refine nt_rn_b 1 (c' := (5, [(0, .ref (n + 4)), (1, .ref (n + 3))], [.ref (n + 4)], (ly_fo n M (ly_io.drop 124)))) rfl ?_
  refine nt_rn_b 1 (c' := (6, [(0, .ref (n + 4)), (1, .ref (n + 3))], [.ref (n + 3), .ref (n + 4)], (ly_fo n M (ly_io.drop 124)))) rfl ?_
  refine nt_rn_s (c' := (9, [(0, .ref (n + 4)), (1, .ref (n + 3))], [], (ly_fo n M (ly_io.drop 123)))) (e := (6, .putfield 9, 900, 0)) rfl rfl (nt_x_put (c := 9) (M' := (ly_fo n M (ly_io.drop 123))) (by rw [ly_fo_n, hn]; show n + 4 < n + 5; omega) (ly_fo_k (i := 4) (q := (9, 0)) (l := ly_io.drop 124) hn rfl).1 rfl rfl) ?_
  exact nt_rn_rv (e := (9, .return_, 0, 0)) rfl rfl rfl rfl
theorem ly_i3 {X : nt_X} {d n : Nat} {M : nt_M} (hn : nt_n M = n) (hb : n + 100 < nt_sp) : nt_ev X (d + 1) 47 [.ref (n + 5), .ref (n + 3)] (ly_fo n M (ly_io.drop 121)) (none, (ly_fo n M (ly_io.drop 118))) := by
  refine nt_rn_b 1 (c' := (1, [(0, .ref (n + 5)), (1, .ref (n + 3))], [.ref (n + 5)], (ly_fo n M (ly_io.drop 121)))) rfl ?_
  refine nt_rn_n (g := 1000) (q := 2) (c' := (4, [(0, .ref (n + 5)), (1, .ref (n + 3))], [], (ly_fo n M (ly_io.drop 121)))) (e := (1, .invokespecial 3, 1000, 0)) rfl rfl (by decide) (Or.inr (Or.inr ⟨_, rfl, rfl⟩)) (ly_x_obj (by omega) (Nat.le_of_ble_eq_true rfl)) ?_
  refine nt_rn_b 1 (c' := (5, [(0, .ref (n + 5)), (1, .ref (n + 3))], [.ref (n + 5)], (ly_fo n M (ly_io.drop 121)))) rfl ?_
  refine nt_rn_b 1 (c' := (8, [(0, .ref (n + 5)), (1, .ref (n + 3))], [.int (Int32.ofInt 400), .ref (n + 5)], (ly_fo n M (ly_io.drop 121)))) rfl ?_
  refine nt_rn_s (c' := (10, [(0, .ref (n + 5)), (1, .ref (n + 3))], [.ref (n + 6), .ref (n + 5)], (ly_fo n M (ly_io.drop 120)))) (e := (8, .newarray .int, 0, 0)) rfl rfl (ly_x_arr (c := n + 6) (k := 400) (by rw [ly_fo_n, hn]; rfl) (by omega) (by decide) (by decide) (by decide)) ?_
  refine nt_rn_s (c' := (13, [(0, .ref (n + 5)), (1, .ref (n + 3))], [], (ly_fo n M (ly_io.drop 119)))) (e := (10, .putfield 9, 501, 0)) rfl rfl (nt_x_put (c := 5) (M' := (ly_fo n M (ly_io.drop 119))) (by rw [ly_fo_n, hn]; show n + 5 < n + 7; omega) (ly_fo_k (i := 5) (q := (5, 0)) (l := ly_io.drop 120) hn rfl).1 rfl rfl) ?_
  refine nt_rn_b 1 (c' := (14, [(0, .ref (n + 5)), (1, .ref (n + 3))], [.ref (n + 5)], (ly_fo n M (ly_io.drop 119)))) rfl ?_
  refine nt_rn_b 1 (c' := (15, [(0, .ref (n + 5)), (1, .ref (n + 3))], [.ref (n + 3), .ref (n + 5)], (ly_fo n M (ly_io.drop 119)))) rfl ?_
  refine nt_rn_s (c' := (18, [(0, .ref (n + 5)), (1, .ref (n + 3))], [], (ly_fo n M (ly_io.drop 118)))) (e := (15, .putfield 15, 500, 0)) rfl rfl (nt_x_put (c := 5) (M' := (ly_fo n M (ly_io.drop 118))) (by rw [ly_fo_n, hn]; show n + 5 < n + 7; omega) (ly_fo_k (i := 5) (q := (5, 0)) (l := ly_io.drop 119) hn rfl).1 rfl rfl) ?_
  exact nt_rn_rv (e := (18, .return_, 0, 0)) rfl rfl rfl rfl
theorem ly_i4 {X : nt_X} {d n : Nat} {M : nt_M} (hn : nt_n M = n) (hb : n + 100 < nt_sp) : nt_ev X (d + 1) 40 [.ref (n + 9)] (ly_fo n M (ly_io.drop 113)) (none, (ly_fo n M (ly_io.drop 109))) := by
  refine nt_rn_b 1 (c' := (1, [(0, .ref (n + 9))], [.ref (n + 9)], (ly_fo n M (ly_io.drop 113)))) rfl ?_
  refine nt_rn_n (g := 1000) (q := 2) (c' := (4, [(0, .ref (n + 9))], [], (ly_fo n M (ly_io.drop 113)))) (e := (1, .invokespecial 3, 1000, 0)) rfl rfl (by decide) (Or.inr (Or.inr ⟨_, rfl, rfl⟩)) (ly_x_obj (by omega) (Nat.le_of_ble_eq_true rfl)) ?_
  refine nt_rn_b 1 (c' := (5, [(0, .ref (n + 9))], [.ref (n + 9)], (ly_fo n M (ly_io.drop 113)))) rfl ?_
  refine nt_rn_b 1 (c' := (7, [(0, .ref (n + 9))], [.int (Int32.ofInt 10), .ref (n + 9)], (ly_fo n M (ly_io.drop 113)))) rfl ?_
  refine nt_rn_s (c' := (9, [(0, .ref (n + 9))], [.ref (n + 10), .ref (n + 9)], (ly_fo n M (ly_io.drop 112)))) (e := (7, .newarray .long, 0, 0)) rfl rfl (ly_x_arr (c := n + 10) (k := 10) (by rw [ly_fo_n, hn]; rfl) (by omega) (by decide) (by decide) (by decide)) ?_
  refine nt_rn_s (c' := (12, [(0, .ref (n + 9))], [], (ly_fo n M (ly_io.drop 111)))) (e := (9, .putfield 9, 300, 0)) rfl rfl (nt_x_put (c := 3) (M' := (ly_fo n M (ly_io.drop 111))) (by rw [ly_fo_n, hn]; show n + 9 < n + 11; omega) (ly_fo_k (i := 9) (q := (3, 0)) (l := ly_io.drop 112) hn rfl).1 rfl rfl) ?_
  refine nt_rn_b 1 (c' := (13, [(0, .ref (n + 9))], [.ref (n + 9)], (ly_fo n M (ly_io.drop 111)))) rfl ?_
  refine nt_rn_b 1 (c' := (15, [(0, .ref (n + 9))], [.int (Int32.ofInt 60), .ref (n + 9)], (ly_fo n M (ly_io.drop 111)))) rfl ?_
  refine nt_rn_s (c' := (17, [(0, .ref (n + 9))], [.ref (n + 11), .ref (n + 9)], (ly_fo n M (ly_io.drop 110)))) (e := (15, .newarray .long, 0, 0)) rfl rfl (ly_x_arr (c := n + 11) (k := 60) (by rw [ly_fo_n, hn]; rfl) (by omega) (by decide) (by decide) (by decide)) ?_
  refine nt_rn_s (c' := (20, [(0, .ref (n + 9))], [], (ly_fo n M (ly_io.drop 109)))) (e := (17, .putfield 15, 301, 0)) rfl rfl (nt_x_put (c := 3) (M' := (ly_fo n M (ly_io.drop 109))) (by rw [ly_fo_n, hn]; show n + 9 < n + 12; omega) (ly_fo_k (i := 9) (q := (3, 0)) (l := ly_io.drop 110) hn rfl).1 rfl rfl) ?_
  exact nt_rn_rv (e := (20, .return_, 0, 0)) rfl rfl rfl rfl
theorem ly_i5 {X : nt_X} {d n : Nat} {M : nt_M} (hn : nt_n M = n) (hb : n + 100 < nt_sp) : nt_ev X (d + 2) 0 [.ref (n + 8)] (ly_fo n M (ly_io.drop 114)) (none, (ly_fo n M (ly_io.drop 108))) := by
  refine nt_rn_b 1 (c' := (1, [(0, .ref (n + 8))], [.ref (n + 8)], (ly_fo n M (ly_io.drop 114)))) rfl ?_
  refine nt_rn_n (g := 1000) (q := 2) (c' := (4, [(0, .ref (n + 8))], [], (ly_fo n M (ly_io.drop 114)))) (e := (1, .invokespecial 3, 1000, 0)) rfl rfl (by decide) (Or.inr (Or.inr ⟨_, rfl, rfl⟩)) (ly_x_obj (by omega) (Nat.le_of_ble_eq_true rfl)) ?_
  refine nt_rn_b 1 (c' := (5, [(0, .ref (n + 8))], [.ref (n + 8)], (ly_fo n M (ly_io.drop 114)))) rfl ?_
  refine nt_rn_s (c' := (8, [(0, .ref (n + 8))], [.ref (n + 9), .ref (n + 8)], (ly_fo n M (ly_io.drop 113)))) (e := (5, .new 9, 3, 0)) rfl rfl (ly_x_new (c := n + 9) (by rw [ly_fo_n, hn]; rfl) (by omega) (by decide)) ?_
  refine nt_rn_b 1 (c' := (9, [(0, .ref (n + 8))], [.ref (n + 9), .ref (n + 9), .ref (n + 8)], (ly_fo n M (ly_io.drop 113)))) rfl ?_
  refine nt_rn_c (g := 40) (q := 2) (vs := [.ref (n + 9)]) (rest := [.ref (n + 9), .ref (n + 8)]) (e := (9, .invokespecial 11, 40, 0)) rfl rfl (Or.inr (Or.inr ⟨_, rfl, rfl⟩)) rfl (fun h => by cases h) (fun _ => rfl) (ly_i4 hn hb) ?_
  refine nt_rn_s (c' := (15, [(0, .ref (n + 8))], [], (ly_fo n M (ly_io.drop 108)))) (e := (12, .putfield 12, 0, 0)) rfl rfl (nt_x_put (c := 0) (M' := (ly_fo n M (ly_io.drop 108))) (by rw [ly_fo_n, hn]; show n + 8 < n + 12; omega) (ly_fo_k (i := 8) (q := (0, 0)) (l := ly_io.drop 109) hn rfl).1 rfl rfl) ?_
  exact nt_rn_rv (e := (15, .return_, 0, 0)) rfl rfl rfl rfl
theorem ly_i6 {X : nt_X} {d n : Nat} {M : nt_M} (hn : nt_n M = n) (hb : n + 100 < nt_sp) : nt_ev X (d + 1) 11 [.ref (n + 12)] (ly_fo n M (ly_io.drop 106)) (none, (ly_fo n M (ly_io.drop 102))) := by
  refine nt_rn_b 1 (c' := (1, [(0, .ref (n + 12))], [.ref (n + 12)], (ly_fo n M (ly_io.drop 106)))) rfl ?_
  refine nt_rn_n (g := 1000) (q := 2) (c' := (4, [(0, .ref (n + 12))], [], (ly_fo n M (ly_io.drop 106)))) (e := (1, .invokespecial 3, 1000, 0)) rfl rfl (by decide) (Or.inr (Or.inr ⟨_, rfl, rfl⟩)) (ly_x_obj (by omega) (Nat.le_of_ble_eq_true rfl)) ?_
  refine nt_rn_b 1 (c' := (5, [(0, .ref (n + 12))], [.ref (n + 12)], (ly_fo n M (ly_io.drop 106)))) rfl ?_
  refine nt_rn_b 1 (c' := (6, [(0, .ref (n + 12))], [.int (Int32.ofInt 4), .ref (n + 12)], (ly_fo n M (ly_io.drop 106)))) rfl ?_
  refine nt_rn_s (c' := (8, [(0, .ref (n + 12))], [.ref (n + 13), .ref (n + 12)], (ly_fo n M (ly_io.drop 105)))) (e := (6, .newarray .int, 0, 0)) rfl rfl (ly_x_arr (c := n + 13) (k := 4) (by rw [ly_fo_n, hn]; rfl) (by omega) (by decide) (by decide) (by decide)) ?_
  refine nt_rn_s (c' := (11, [(0, .ref (n + 12))], [], (ly_fo n M (ly_io.drop 104)))) (e := (8, .putfield 9, 102, 0)) rfl rfl (nt_x_put (c := 1) (M' := (ly_fo n M (ly_io.drop 104))) (by rw [ly_fo_n, hn]; show n + 12 < n + 14; omega) (ly_fo_k (i := 12) (q := (1, 0)) (l := ly_io.drop 105) hn rfl).1 rfl rfl) ?_
  refine nt_rn_b 1 (c' := (12, [(0, .ref (n + 12))], [.ref (n + 12)], (ly_fo n M (ly_io.drop 104)))) rfl ?_
  refine nt_rn_b 1 (c' := (13, [(0, .ref (n + 12))], [.int (Int32.ofInt 4), .ref (n + 12)], (ly_fo n M (ly_io.drop 104)))) rfl ?_
  refine nt_rn_s (c' := (15, [(0, .ref (n + 12))], [.ref (n + 14), .ref (n + 12)], (ly_fo n M (ly_io.drop 103)))) (e := (13, .newarray .int, 0, 0)) rfl rfl (ly_x_arr (c := n + 14) (k := 4) (by rw [ly_fo_n, hn]; rfl) (by omega) (by decide) (by decide) (by decide)) ?_
  refine nt_rn_s (c' := (18, [(0, .ref (n + 12))], [], (ly_fo n M (ly_io.drop 102)))) (e := (15, .putfield 15, 103, 0)) rfl rfl (nt_x_put (c := 1) (M' := (ly_fo n M (ly_io.drop 102))) (by rw [ly_fo_n, hn]; show n + 12 < n + 15; omega) (ly_fo_k (i := 12) (q := (1, 0)) (l := ly_io.drop 103) hn rfl).1 rfl rfl) ?_
  exact nt_rn_rv (e := (18, .return_, 0, 0)) rfl rfl rfl rfl
theorem ly_i7 {X : nt_X} {d n : Nat} {M : nt_M} (hn : nt_n M = n) (hb : n + 100 < nt_sp) : nt_ev X (d + 1) 85 [.ref (n + 16)] (ly_fo n M (ly_io.drop 99)) (none, (ly_fo n M (ly_io.drop 83))) := by
  refine nt_rn_b 1 (c' := (1, [(0, .ref (n + 16))], [.ref (n + 16)], (ly_fo n M (ly_io.drop 99)))) rfl ?_
  refine nt_rn_n (g := 1000) (q := 2) (c' := (4, [(0, .ref (n + 16))], [], (ly_fo n M (ly_io.drop 99)))) (e := (1, .invokespecial 3, 1000, 0)) rfl rfl (by decide) (Or.inr (Or.inr ⟨_, rfl, rfl⟩)) (ly_x_obj (by omega) (Nat.le_of_ble_eq_true rfl)) ?_
  refine nt_rn_b 1 (c' := (5, [(0, .ref (n + 16))], [.ref (n + 16)], (ly_fo n M (ly_io.drop 99)))) rfl ?_
  refine nt_rn_b 1 (c' := (7, [(0, .ref (n + 16))], [.int (Int32.ofInt 24), .ref (n + 16)], (ly_fo n M (ly_io.drop 99)))) rfl ?_
  refine nt_rn_s (c' := (9, [(0, .ref (n + 16))], [.ref (n + 17), .ref (n + 16)], (ly_fo n M (ly_io.drop 98)))) (e := (7, .newarray .int, 0, 0)) rfl rfl (ly_x_arr (c := n + 17) (k := 24) (by rw [ly_fo_n, hn]; rfl) (by omega) (by decide) (by decide) (by decide)) ?_
  refine nt_rn_s (c' := (12, [(0, .ref (n + 16))], [], (ly_fo n M (ly_io.drop 97)))) (e := (9, .putfield 9, 805, 0)) rfl rfl (nt_x_put (c := 8) (M' := (ly_fo n M (ly_io.drop 97))) (by rw [ly_fo_n, hn]; show n + 16 < n + 18; omega) (ly_fo_k (i := 16) (q := (8, 0)) (l := ly_io.drop 98) hn rfl).1 rfl rfl) ?_
  refine nt_rn_b 1 (c' := (13, [(0, .ref (n + 16))], [.ref (n + 16)], (ly_fo n M (ly_io.drop 97)))) rfl ?_
  refine nt_rn_b 1 (c' := (15, [(0, .ref (n + 16))], [.int (Int32.ofInt 24), .ref (n + 16)], (ly_fo n M (ly_io.drop 97)))) rfl ?_
  refine nt_rn_s (c' := (17, [(0, .ref (n + 16))], [.ref (n + 18), .ref (n + 16)], (ly_fo n M (ly_io.drop 96)))) (e := (15, .newarray .int, 0, 0)) rfl rfl (ly_x_arr (c := n + 18) (k := 24) (by rw [ly_fo_n, hn]; rfl) (by omega) (by decide) (by decide) (by decide)) ?_
  refine nt_rn_s (c' := (20, [(0, .ref (n + 16))], [], (ly_fo n M (ly_io.drop 95)))) (e := (17, .putfield 15, 806, 0)) rfl rfl (nt_x_put (c := 8) (M' := (ly_fo n M (ly_io.drop 95))) (by rw [ly_fo_n, hn]; show n + 16 < n + 19; omega) (ly_fo_k (i := 16) (q := (8, 0)) (l := ly_io.drop 96) hn rfl).1 rfl rfl) ?_
  refine nt_rn_b 1 (c' := (21, [(0, .ref (n + 16))], [.ref (n + 16)], (ly_fo n M (ly_io.drop 95)))) rfl ?_
  refine nt_rn_b 1 (c' := (23, [(0, .ref (n + 16))], [.int (Int32.ofInt 24), .ref (n + 16)], (ly_fo n M (ly_io.drop 95)))) rfl ?_
  refine nt_rn_s (c' := (25, [(0, .ref (n + 16))], [.ref (n + 19), .ref (n + 16)], (ly_fo n M (ly_io.drop 94)))) (e := (23, .newarray .int, 0, 0)) rfl rfl (ly_x_arr (c := n + 19) (k := 24) (by rw [ly_fo_n, hn]; rfl) (by omega) (by decide) (by decide) (by decide)) ?_
  refine nt_rn_s (c' := (28, [(0, .ref (n + 16))], [], (ly_fo n M (ly_io.drop 93)))) (e := (25, .putfield 18, 807, 0)) rfl rfl (nt_x_put (c := 8) (M' := (ly_fo n M (ly_io.drop 93))) (by rw [ly_fo_n, hn]; show n + 16 < n + 20; omega) (ly_fo_k (i := 16) (q := (8, 0)) (l := ly_io.drop 94) hn rfl).1 rfl rfl) ?_
  refine nt_rn_b 1 (c' := (29, [(0, .ref (n + 16))], [.ref (n + 16)], (ly_fo n M (ly_io.drop 93)))) rfl ?_
  refine nt_rn_b 1 (c' := (31, [(0, .ref (n + 16))], [.int (Int32.ofInt 24), .ref (n + 16)], (ly_fo n M (ly_io.drop 93)))) rfl ?_
  refine nt_rn_s (c' := (33, [(0, .ref (n + 16))], [.ref (n + 20), .ref (n + 16)], (ly_fo n M (ly_io.drop 92)))) (e := (31, .newarray .int, 0, 0)) rfl rfl (ly_x_arr (c := n + 20) (k := 24) (by rw [ly_fo_n, hn]; rfl) (by omega) (by decide) (by decide) (by decide)) ?_
  refine nt_rn_s (c' := (36, [(0, .ref (n + 16))], [], (ly_fo n M (ly_io.drop 91)))) (e := (33, .putfield 21, 808, 0)) rfl rfl (nt_x_put (c := 8) (M' := (ly_fo n M (ly_io.drop 91))) (by rw [ly_fo_n, hn]; show n + 16 < n + 21; omega) (ly_fo_k (i := 16) (q := (8, 0)) (l := ly_io.drop 92) hn rfl).1 rfl rfl) ?_
  refine nt_rn_b 1 (c' := (37, [(0, .ref (n + 16))], [.ref (n + 16)], (ly_fo n M (ly_io.drop 91)))) rfl ?_
  refine nt_rn_b 1 (c' := (39, [(0, .ref (n + 16))], [.int (Int32.ofInt 8), .ref (n + 16)], (ly_fo n M (ly_io.drop 91)))) rfl ?_
  refine nt_rn_s (c' := (41, [(0, .ref (n + 16))], [.ref (n + 21), .ref (n + 16)], (ly_fo n M (ly_io.drop 90)))) (e := (39, .newarray .int, 0, 0)) rfl rfl (ly_x_arr (c := n + 21) (k := 8) (by rw [ly_fo_n, hn]; rfl) (by omega) (by decide) (by decide) (by decide)) ?_
  refine nt_rn_s (c' := (44, [(0, .ref (n + 16))], [], (ly_fo n M (ly_io.drop 89)))) (e := (41, .putfield 24, 809, 0)) rfl rfl (nt_x_put (c := 8) (M' := (ly_fo n M (ly_io.drop 89))) (by rw [ly_fo_n, hn]; show n + 16 < n + 22; omega) (ly_fo_k (i := 16) (q := (8, 0)) (l := ly_io.drop 90) hn rfl).1 rfl rfl) ?_
  refine nt_rn_b 1 (c' := (45, [(0, .ref (n + 16))], [.ref (n + 16)], (ly_fo n M (ly_io.drop 89)))) rfl ?_
  refine nt_rn_b 1 (c' := (47, [(0, .ref (n + 16))], [.int (Int32.ofInt 8), .ref (n + 16)], (ly_fo n M (ly_io.drop 89)))) rfl ?_
  refine nt_rn_s (c' := (49, [(0, .ref (n + 16))], [.ref (n + 22), .ref (n + 16)], (ly_fo n M (ly_io.drop 88)))) (e := (47, .newarray .int, 0, 0)) rfl rfl (ly_x_arr (c := n + 22) (k := 8) (by rw [ly_fo_n, hn]; rfl) (by omega) (by decide) (by decide) (by decide)) ?_
  refine nt_rn_s (c' := (52, [(0, .ref (n + 16))], [], (ly_fo n M (ly_io.drop 87)))) (e := (49, .putfield 27, 810, 0)) rfl rfl (nt_x_put (c := 8) (M' := (ly_fo n M (ly_io.drop 87))) (by rw [ly_fo_n, hn]; show n + 16 < n + 23; omega) (ly_fo_k (i := 16) (q := (8, 0)) (l := ly_io.drop 88) hn rfl).1 rfl rfl) ?_
  refine nt_rn_b 1 (c' := (53, [(0, .ref (n + 16))], [.ref (n + 16)], (ly_fo n M (ly_io.drop 87)))) rfl ?_
  refine nt_rn_b 1 (c' := (55, [(0, .ref (n + 16))], [.int (Int32.ofInt 8), .ref (n + 16)], (ly_fo n M (ly_io.drop 87)))) rfl ?_
  refine nt_rn_s (c' := (57, [(0, .ref (n + 16))], [.ref (n + 23), .ref (n + 16)], (ly_fo n M (ly_io.drop 86)))) (e := (55, .newarray .int, 0, 0)) rfl rfl (ly_x_arr (c := n + 23) (k := 8) (by rw [ly_fo_n, hn]; rfl) (by omega) (by decide) (by decide) (by decide)) ?_
  refine nt_rn_s (c' := (60, [(0, .ref (n + 16))], [], (ly_fo n M (ly_io.drop 85)))) (e := (57, .putfield 30, 811, 0)) rfl rfl (nt_x_put (c := 8) (M' := (ly_fo n M (ly_io.drop 85))) (by rw [ly_fo_n, hn]; show n + 16 < n + 24; omega) (ly_fo_k (i := 16) (q := (8, 0)) (l := ly_io.drop 86) hn rfl).1 rfl rfl) ?_
  refine nt_rn_b 1 (c' := (61, [(0, .ref (n + 16))], [.ref (n + 16)], (ly_fo n M (ly_io.drop 85)))) rfl ?_
  refine nt_rn_b 1 (c' := (63, [(0, .ref (n + 16))], [.int (Int32.ofInt 8), .ref (n + 16)], (ly_fo n M (ly_io.drop 85)))) rfl ?_
  refine nt_rn_s (c' := (65, [(0, .ref (n + 16))], [.ref (n + 24), .ref (n + 16)], (ly_fo n M (ly_io.drop 84)))) (e := (63, .newarray .int, 0, 0)) rfl rfl (ly_x_arr (c := n + 24) (k := 8) (by rw [ly_fo_n, hn]; rfl) (by omega) (by decide) (by decide) (by decide)) ?_
  refine nt_rn_s (c' := (68, [(0, .ref (n + 16))], [], (ly_fo n M (ly_io.drop 83)))) (e := (65, .putfield 33, 812, 0)) rfl rfl (nt_x_put (c := 8) (M' := (ly_fo n M (ly_io.drop 83))) (by rw [ly_fo_n, hn]; show n + 16 < n + 25; omega) (ly_fo_k (i := 16) (q := (8, 0)) (l := ly_io.drop 84) hn rfl).1 rfl rfl) ?_
  exact nt_rn_rv (e := (68, .return_, 0, 0)) rfl rfl rfl rfl
theorem ly_i8 {X : nt_X} {d n : Nat} {M : nt_M} (hn : nt_n M = n) (hb : n + 100 < nt_sp) : nt_ev X (d + 2) 63 [.ref (n + 15)] (ly_fo n M (ly_io.drop 100)) (none, (ly_fo n M (ly_io.drop 68))) := by
  refine nt_rn_b 1 (c' := (1, [(0, .ref (n + 15))], [.ref (n + 15)], (ly_fo n M (ly_io.drop 100)))) rfl ?_
  refine nt_rn_n (g := 1000) (q := 2) (c' := (4, [(0, .ref (n + 15))], [], (ly_fo n M (ly_io.drop 100)))) (e := (1, .invokespecial 3, 1000, 0)) rfl rfl (by decide) (Or.inr (Or.inr ⟨_, rfl, rfl⟩)) (ly_x_obj (by omega) (Nat.le_of_ble_eq_true rfl)) ?_
  refine nt_rn_b 1 (c' := (5, [(0, .ref (n + 15))], [.ref (n + 15)], (ly_fo n M (ly_io.drop 100)))) rfl ?_
  refine nt_rn_s (c' := (8, [(0, .ref (n + 15))], [.ref (n + 16), .ref (n + 15)], (ly_fo n M (ly_io.drop 99)))) (e := (5, .new 9, 8, 0)) rfl rfl (ly_x_new (c := n + 16) (by rw [ly_fo_n, hn]; rfl) (by omega) (by decide)) ?_
  refine nt_rn_b 1 (c' := (9, [(0, .ref (n + 15))], [.ref (n + 16), .ref (n + 16), .ref (n + 15)], (ly_fo n M (ly_io.drop 99)))) rfl ?_
  refine nt_rn_c (g := 85) (q := 2) (vs := [.ref (n + 16)]) (rest := [.ref (n + 16), .ref (n + 15)]) (e := (9, .invokespecial 11, 85, 0)) rfl rfl (Or.inr (Or.inr ⟨_, rfl, rfl⟩)) rfl (fun h => by cases h) (fun _ => rfl) (ly_i7 hn hb) ?_
  refine nt_rn_s (c' := (15, [(0, .ref (n + 15))], [], (ly_fo n M (ly_io.drop 82)))) (e := (12, .putfield 12, 600, 0)) rfl rfl (nt_x_put (c := 6) (M' := (ly_fo n M (ly_io.drop 82))) (by rw [ly_fo_n, hn]; show n + 15 < n + 25; omega) (ly_fo_k (i := 15) (q := (6, 0)) (l := ly_io.drop 83) hn rfl).1 rfl rfl) ?_
  refine nt_rn_b 1 (c' := (16, [(0, .ref (n + 15))], [.ref (n + 15)], (ly_fo n M (ly_io.drop 82)))) rfl ?_
  refine nt_rn_b 1 (c' := (18, [(0, .ref (n + 15))], [.int (Int32.ofInt 6), .ref (n + 15)], (ly_fo n M (ly_io.drop 82)))) rfl ?_
  refine nt_rn_s (c' := (20, [(0, .ref (n + 15))], [.ref (n + 25), .ref (n + 15)], (ly_fo n M (ly_io.drop 81)))) (e := (18, .newarray .int, 0, 0)) rfl rfl (ly_x_arr (c := n + 25) (k := 6) (by rw [ly_fo_n, hn]; rfl) (by omega) (by decide) (by decide) (by decide)) ?_
  refine nt_rn_s (c' := (23, [(0, .ref (n + 15))], [], (ly_fo n M (ly_io.drop 80)))) (e := (20, .putfield 18, 607, 0)) rfl rfl (nt_x_put (c := 6) (M' := (ly_fo n M (ly_io.drop 80))) (by rw [ly_fo_n, hn]; show n + 15 < n + 26; omega) (ly_fo_k (i := 15) (q := (6, 0)) (l := ly_io.drop 81) hn rfl).1 rfl rfl) ?_
  refine nt_rn_b 1 (c' := (24, [(0, .ref (n + 15))], [.ref (n + 15)], (ly_fo n M (ly_io.drop 80)))) rfl ?_
  refine nt_rn_b 1 (c' := (26, [(0, .ref (n + 15))], [.int (Int32.ofInt 6), .ref (n + 15)], (ly_fo n M (ly_io.drop 80)))) rfl ?_
  refine nt_rn_s (c' := (28, [(0, .ref (n + 15))], [.ref (n + 26), .ref (n + 15)], (ly_fo n M (ly_io.drop 79)))) (e := (26, .newarray .int, 0, 0)) rfl rfl (ly_x_arr (c := n + 26) (k := 6) (by rw [ly_fo_n, hn]; rfl) (by omega) (by decide) (by decide) (by decide)) ?_
  refine nt_rn_s (c' := (31, [(0, .ref (n + 15))], [], (ly_fo n M (ly_io.drop 78)))) (e := (28, .putfield 22, 608, 0)) rfl rfl (nt_x_put (c := 6) (M' := (ly_fo n M (ly_io.drop 78))) (by rw [ly_fo_n, hn]; show n + 15 < n + 27; omega) (ly_fo_k (i := 15) (q := (6, 0)) (l := ly_io.drop 79) hn rfl).1 rfl rfl) ?_
  refine nt_rn_b 1 (c' := (32, [(0, .ref (n + 15))], [.ref (n + 15)], (ly_fo n M (ly_io.drop 78)))) rfl ?_
  refine nt_rn_b 1 (c' := (34, [(0, .ref (n + 15))], [.int (Int32.ofInt 6), .ref (n + 15)], (ly_fo n M (ly_io.drop 78)))) rfl ?_
  refine nt_rn_s (c' := (36, [(0, .ref (n + 15))], [.ref (n + 27), .ref (n + 15)], (ly_fo n M (ly_io.drop 77)))) (e := (34, .newarray .int, 0, 0)) rfl rfl (ly_x_arr (c := n + 27) (k := 6) (by rw [ly_fo_n, hn]; rfl) (by omega) (by decide) (by decide) (by decide)) ?_
  refine nt_rn_s (c' := (39, [(0, .ref (n + 15))], [], (ly_fo n M (ly_io.drop 76)))) (e := (36, .putfield 25, 609, 0)) rfl rfl (nt_x_put (c := 6) (M' := (ly_fo n M (ly_io.drop 76))) (by rw [ly_fo_n, hn]; show n + 15 < n + 28; omega) (ly_fo_k (i := 15) (q := (6, 0)) (l := ly_io.drop 77) hn rfl).1 rfl rfl) ?_
  refine nt_rn_b 1 (c' := (40, [(0, .ref (n + 15))], [.ref (n + 15)], (ly_fo n M (ly_io.drop 76)))) rfl ?_
  refine nt_rn_b 1 (c' := (42, [(0, .ref (n + 15))], [.int (Int32.ofInt 24), .ref (n + 15)], (ly_fo n M (ly_io.drop 76)))) rfl ?_
  refine nt_rn_s (c' := (44, [(0, .ref (n + 15))], [.ref (n + 28), .ref (n + 15)], (ly_fo n M (ly_io.drop 75)))) (e := (42, .newarray .int, 0, 0)) rfl rfl (ly_x_arr (c := n + 28) (k := 24) (by rw [ly_fo_n, hn]; rfl) (by omega) (by decide) (by decide) (by decide)) ?_
  refine nt_rn_s (c' := (47, [(0, .ref (n + 15))], [], (ly_fo n M (ly_io.drop 74)))) (e := (44, .putfield 28, 610, 0)) rfl rfl (nt_x_put (c := 6) (M' := (ly_fo n M (ly_io.drop 74))) (by rw [ly_fo_n, hn]; show n + 15 < n + 29; omega) (ly_fo_k (i := 15) (q := (6, 0)) (l := ly_io.drop 75) hn rfl).1 rfl rfl) ?_
  refine nt_rn_b 1 (c' := (48, [(0, .ref (n + 15))], [.ref (n + 15)], (ly_fo n M (ly_io.drop 74)))) rfl ?_
  refine nt_rn_b 1 (c' := (50, [(0, .ref (n + 15))], [.int (Int32.ofInt 24), .ref (n + 15)], (ly_fo n M (ly_io.drop 74)))) rfl ?_
  refine nt_rn_s (c' := (52, [(0, .ref (n + 15))], [.ref (n + 29), .ref (n + 15)], (ly_fo n M (ly_io.drop 73)))) (e := (50, .newarray .int, 0, 0)) rfl rfl (ly_x_arr (c := n + 29) (k := 24) (by rw [ly_fo_n, hn]; rfl) (by omega) (by decide) (by decide) (by decide)) ?_
  refine nt_rn_s (c' := (55, [(0, .ref (n + 15))], [], (ly_fo n M (ly_io.drop 72)))) (e := (52, .putfield 31, 611, 0)) rfl rfl (nt_x_put (c := 6) (M' := (ly_fo n M (ly_io.drop 72))) (by rw [ly_fo_n, hn]; show n + 15 < n + 30; omega) (ly_fo_k (i := 15) (q := (6, 0)) (l := ly_io.drop 73) hn rfl).1 rfl rfl) ?_
  refine nt_rn_b 1 (c' := (56, [(0, .ref (n + 15))], [.ref (n + 15)], (ly_fo n M (ly_io.drop 72)))) rfl ?_
  refine nt_rn_b 1 (c' := (58, [(0, .ref (n + 15))], [.int (Int32.ofInt 24), .ref (n + 15)], (ly_fo n M (ly_io.drop 72)))) rfl ?_
  refine nt_rn_s (c' := (60, [(0, .ref (n + 15))], [.ref (n + 30), .ref (n + 15)], (ly_fo n M (ly_io.drop 71)))) (e := (58, .newarray .boolean, 0, 0)) rfl rfl (ly_x_arr (c := n + 30) (k := 24) (by rw [ly_fo_n, hn]; rfl) (by omega) (by decide) (by decide) (by decide)) ?_
  refine nt_rn_s (c' := (63, [(0, .ref (n + 15))], [], (ly_fo n M (ly_io.drop 70)))) (e := (60, .putfield 34, 612, 0)) rfl rfl (nt_x_put (c := 6) (M' := (ly_fo n M (ly_io.drop 70))) (by rw [ly_fo_n, hn]; show n + 15 < n + 31; omega) (ly_fo_k (i := 15) (q := (6, 0)) (l := ly_io.drop 71) hn rfl).1 rfl rfl) ?_
  refine nt_rn_b 1 (c' := (64, [(0, .ref (n + 15))], [.ref (n + 15)], (ly_fo n M (ly_io.drop 70)))) rfl ?_
  refine nt_rn_b 1 (c' := (66, [(0, .ref (n + 15))], [.int (Int32.ofInt 8), .ref (n + 15)], (ly_fo n M (ly_io.drop 70)))) rfl ?_
  refine nt_rn_s (c' := (68, [(0, .ref (n + 15))], [.ref (n + 31), .ref (n + 15)], (ly_fo n M (ly_io.drop 69)))) (e := (66, .newarray .int, 0, 0)) rfl rfl (ly_x_arr (c := n + 31) (k := 8) (by rw [ly_fo_n, hn]; rfl) (by omega) (by decide) (by decide) (by decide)) ?_
  refine nt_rn_s (c' := (71, [(0, .ref (n + 15))], [], (ly_fo n M (ly_io.drop 68)))) (e := (68, .putfield 38, 613, 0)) rfl rfl (nt_x_put (c := 6) (M' := (ly_fo n M (ly_io.drop 68))) (by rw [ly_fo_n, hn]; show n + 15 < n + 32; omega) (ly_fo_k (i := 15) (q := (6, 0)) (l := ly_io.drop 69) hn rfl).1 rfl rfl) ?_
  exact nt_rn_rv (e := (71, .return_, 0, 0)) rfl rfl rfl rfl
theorem ly_i9 {X : nt_X} {d n : Nat} {M : nt_M} (hn : nt_n M = n) (hb : n + 100 < nt_sp) : nt_ev X (d + 1) 85 [.ref (n + 33)] (ly_fo n M (ly_io.drop 65)) (none, (ly_fo n M (ly_io.drop 49))) := by
  refine nt_rn_b 1 (c' := (1, [(0, .ref (n + 33))], [.ref (n + 33)], (ly_fo n M (ly_io.drop 65)))) rfl ?_
  refine nt_rn_n (g := 1000) (q := 2) (c' := (4, [(0, .ref (n + 33))], [], (ly_fo n M (ly_io.drop 65)))) (e := (1, .invokespecial 3, 1000, 0)) rfl rfl (by decide) (Or.inr (Or.inr ⟨_, rfl, rfl⟩)) (ly_x_obj (by omega) (Nat.le_of_ble_eq_true rfl)) ?_
  refine nt_rn_b 1 (c' := (5, [(0, .ref (n + 33))], [.ref (n + 33)], (ly_fo n M (ly_io.drop 65)))) rfl ?_
  refine nt_rn_b 1 (c' := (7, [(0, .ref (n + 33))], [.int (Int32.ofInt 24), .ref (n + 33)], (ly_fo n M (ly_io.drop 65)))) rfl ?_
  refine nt_rn_s (c' := (9, [(0, .ref (n + 33))], [.ref (n + 34), .ref (n + 33)], (ly_fo n M (ly_io.drop 64)))) (e := (7, .newarray .int, 0, 0)) rfl rfl (ly_x_arr (c := n + 34) (k := 24) (by rw [ly_fo_n, hn]; rfl) (by omega) (by decide) (by decide) (by decide)) ?_
  refine nt_rn_s (c' := (12, [(0, .ref (n + 33))], [], (ly_fo n M (ly_io.drop 63)))) (e := (9, .putfield 9, 805, 0)) rfl rfl (nt_x_put (c := 8) (M' := (ly_fo n M (ly_io.drop 63))) (by rw [ly_fo_n, hn]; show n + 33 < n + 35; omega) (ly_fo_k (i := 33) (q := (8, 0)) (l := ly_io.drop 64) hn rfl).1 rfl rfl) ?_
  refine nt_rn_b 1 (c' := (13, [(0, .ref (n + 33))], [.ref (n + 33)], (ly_fo n M (ly_io.drop 63)))) rfl ?_
  refine nt_rn_b 1 (c' := (15, [(0, .ref (n + 33))], [.int (Int32.ofInt 24), .ref (n + 33)], (ly_fo n M (ly_io.drop 63)))) rfl ?_
  refine nt_rn_s (c' := (17, [(0, .ref (n + 33))], [.ref (n + 35), .ref (n + 33)], (ly_fo n M (ly_io.drop 62)))) (e := (15, .newarray .int, 0, 0)) rfl rfl (ly_x_arr (c := n + 35) (k := 24) (by rw [ly_fo_n, hn]; rfl) (by omega) (by decide) (by decide) (by decide)) ?_
  refine nt_rn_s (c' := (20, [(0, .ref (n + 33))], [], (ly_fo n M (ly_io.drop 61)))) (e := (17, .putfield 15, 806, 0)) rfl rfl (nt_x_put (c := 8) (M' := (ly_fo n M (ly_io.drop 61))) (by rw [ly_fo_n, hn]; show n + 33 < n + 36; omega) (ly_fo_k (i := 33) (q := (8, 0)) (l := ly_io.drop 62) hn rfl).1 rfl rfl) ?_
  refine nt_rn_b 1 (c' := (21, [(0, .ref (n + 33))], [.ref (n + 33)], (ly_fo n M (ly_io.drop 61)))) rfl ?_
  refine nt_rn_b 1 (c' := (23, [(0, .ref (n + 33))], [.int (Int32.ofInt 24), .ref (n + 33)], (ly_fo n M (ly_io.drop 61)))) rfl ?_
  refine nt_rn_s (c' := (25, [(0, .ref (n + 33))], [.ref (n + 36), .ref (n + 33)], (ly_fo n M (ly_io.drop 60)))) (e := (23, .newarray .int, 0, 0)) rfl rfl (ly_x_arr (c := n + 36) (k := 24) (by rw [ly_fo_n, hn]; rfl) (by omega) (by decide) (by decide) (by decide)) ?_
  refine nt_rn_s (c' := (28, [(0, .ref (n + 33))], [], (ly_fo n M (ly_io.drop 59)))) (e := (25, .putfield 18, 807, 0)) rfl rfl (nt_x_put (c := 8) (M' := (ly_fo n M (ly_io.drop 59))) (by rw [ly_fo_n, hn]; show n + 33 < n + 37; omega) (ly_fo_k (i := 33) (q := (8, 0)) (l := ly_io.drop 60) hn rfl).1 rfl rfl) ?_
  refine nt_rn_b 1 (c' := (29, [(0, .ref (n + 33))], [.ref (n + 33)], (ly_fo n M (ly_io.drop 59)))) rfl ?_
  refine nt_rn_b 1 (c' := (31, [(0, .ref (n + 33))], [.int (Int32.ofInt 24), .ref (n + 33)], (ly_fo n M (ly_io.drop 59)))) rfl ?_
  refine nt_rn_s (c' := (33, [(0, .ref (n + 33))], [.ref (n + 37), .ref (n + 33)], (ly_fo n M (ly_io.drop 58)))) (e := (31, .newarray .int, 0, 0)) rfl rfl (ly_x_arr (c := n + 37) (k := 24) (by rw [ly_fo_n, hn]; rfl) (by omega) (by decide) (by decide) (by decide)) ?_
  refine nt_rn_s (c' := (36, [(0, .ref (n + 33))], [], (ly_fo n M (ly_io.drop 57)))) (e := (33, .putfield 21, 808, 0)) rfl rfl (nt_x_put (c := 8) (M' := (ly_fo n M (ly_io.drop 57))) (by rw [ly_fo_n, hn]; show n + 33 < n + 38; omega) (ly_fo_k (i := 33) (q := (8, 0)) (l := ly_io.drop 58) hn rfl).1 rfl rfl) ?_
  refine nt_rn_b 1 (c' := (37, [(0, .ref (n + 33))], [.ref (n + 33)], (ly_fo n M (ly_io.drop 57)))) rfl ?_
  refine nt_rn_b 1 (c' := (39, [(0, .ref (n + 33))], [.int (Int32.ofInt 8), .ref (n + 33)], (ly_fo n M (ly_io.drop 57)))) rfl ?_
  refine nt_rn_s (c' := (41, [(0, .ref (n + 33))], [.ref (n + 38), .ref (n + 33)], (ly_fo n M (ly_io.drop 56)))) (e := (39, .newarray .int, 0, 0)) rfl rfl (ly_x_arr (c := n + 38) (k := 8) (by rw [ly_fo_n, hn]; rfl) (by omega) (by decide) (by decide) (by decide)) ?_
  refine nt_rn_s (c' := (44, [(0, .ref (n + 33))], [], (ly_fo n M (ly_io.drop 55)))) (e := (41, .putfield 24, 809, 0)) rfl rfl (nt_x_put (c := 8) (M' := (ly_fo n M (ly_io.drop 55))) (by rw [ly_fo_n, hn]; show n + 33 < n + 39; omega) (ly_fo_k (i := 33) (q := (8, 0)) (l := ly_io.drop 56) hn rfl).1 rfl rfl) ?_
  refine nt_rn_b 1 (c' := (45, [(0, .ref (n + 33))], [.ref (n + 33)], (ly_fo n M (ly_io.drop 55)))) rfl ?_
  refine nt_rn_b 1 (c' := (47, [(0, .ref (n + 33))], [.int (Int32.ofInt 8), .ref (n + 33)], (ly_fo n M (ly_io.drop 55)))) rfl ?_
  refine nt_rn_s (c' := (49, [(0, .ref (n + 33))], [.ref (n + 39), .ref (n + 33)], (ly_fo n M (ly_io.drop 54)))) (e := (47, .newarray .int, 0, 0)) rfl rfl (ly_x_arr (c := n + 39) (k := 8) (by rw [ly_fo_n, hn]; rfl) (by omega) (by decide) (by decide) (by decide)) ?_
  refine nt_rn_s (c' := (52, [(0, .ref (n + 33))], [], (ly_fo n M (ly_io.drop 53)))) (e := (49, .putfield 27, 810, 0)) rfl rfl (nt_x_put (c := 8) (M' := (ly_fo n M (ly_io.drop 53))) (by rw [ly_fo_n, hn]; show n + 33 < n + 40; omega) (ly_fo_k (i := 33) (q := (8, 0)) (l := ly_io.drop 54) hn rfl).1 rfl rfl) ?_
  refine nt_rn_b 1 (c' := (53, [(0, .ref (n + 33))], [.ref (n + 33)], (ly_fo n M (ly_io.drop 53)))) rfl ?_
  refine nt_rn_b 1 (c' := (55, [(0, .ref (n + 33))], [.int (Int32.ofInt 8), .ref (n + 33)], (ly_fo n M (ly_io.drop 53)))) rfl ?_
  refine nt_rn_s (c' := (57, [(0, .ref (n + 33))], [.ref (n + 40), .ref (n + 33)], (ly_fo n M (ly_io.drop 52)))) (e := (55, .newarray .int, 0, 0)) rfl rfl (ly_x_arr (c := n + 40) (k := 8) (by rw [ly_fo_n, hn]; rfl) (by omega) (by decide) (by decide) (by decide)) ?_
  refine nt_rn_s (c' := (60, [(0, .ref (n + 33))], [], (ly_fo n M (ly_io.drop 51)))) (e := (57, .putfield 30, 811, 0)) rfl rfl (nt_x_put (c := 8) (M' := (ly_fo n M (ly_io.drop 51))) (by rw [ly_fo_n, hn]; show n + 33 < n + 41; omega) (ly_fo_k (i := 33) (q := (8, 0)) (l := ly_io.drop 52) hn rfl).1 rfl rfl) ?_
  refine nt_rn_b 1 (c' := (61, [(0, .ref (n + 33))], [.ref (n + 33)], (ly_fo n M (ly_io.drop 51)))) rfl ?_
  refine nt_rn_b 1 (c' := (63, [(0, .ref (n + 33))], [.int (Int32.ofInt 8), .ref (n + 33)], (ly_fo n M (ly_io.drop 51)))) rfl ?_
  refine nt_rn_s (c' := (65, [(0, .ref (n + 33))], [.ref (n + 41), .ref (n + 33)], (ly_fo n M (ly_io.drop 50)))) (e := (63, .newarray .int, 0, 0)) rfl rfl (ly_x_arr (c := n + 41) (k := 8) (by rw [ly_fo_n, hn]; rfl) (by omega) (by decide) (by decide) (by decide)) ?_
  refine nt_rn_s (c' := (68, [(0, .ref (n + 33))], [], (ly_fo n M (ly_io.drop 49)))) (e := (65, .putfield 33, 812, 0)) rfl rfl (nt_x_put (c := 8) (M' := (ly_fo n M (ly_io.drop 49))) (by rw [ly_fo_n, hn]; show n + 33 < n + 42; omega) (ly_fo_k (i := 33) (q := (8, 0)) (l := ly_io.drop 50) hn rfl).1 rfl rfl) ?_
  exact nt_rn_rv (e := (68, .return_, 0, 0)) rfl rfl rfl rfl
theorem ly_i10 {X : nt_X} {d n : Nat} {M : nt_M} (hn : nt_n M = n) (hb : n + 100 < nt_sp) : nt_ev X (d + 2) 63 [.ref (n + 32)] (ly_fo n M (ly_io.drop 66)) (none, (ly_fo n M (ly_io.drop 34))) := by
  refine nt_rn_b 1 (c' := (1, [(0, .ref (n + 32))], [.ref (n + 32)], (ly_fo n M (ly_io.drop 66)))) rfl ?_
  refine nt_rn_n (g := 1000) (q := 2) (c' := (4, [(0, .ref (n + 32))], [], (ly_fo n M (ly_io.drop 66)))) (e := (1, .invokespecial 3, 1000, 0)) rfl rfl (by decide) (Or.inr (Or.inr ⟨_, rfl, rfl⟩)) (ly_x_obj (by omega) (Nat.le_of_ble_eq_true rfl)) ?_
  refine nt_rn_b 1 (c' := (5, [(0, .ref (n + 32))], [.ref (n + 32)], (ly_fo n M (ly_io.drop 66)))) rfl ?_
  refine nt_rn_s (c' := (8, [(0, .ref (n + 32))], [.ref (n + 33), .ref (n + 32)], (ly_fo n M (ly_io.drop 65)))) (e := (5, .new 9, 8, 0)) rfl rfl (ly_x_new (c := n + 33) (by rw [ly_fo_n, hn]; rfl) (by omega) (by decide)) ?_
  refine nt_rn_b 1 (c' := (9, [(0, .ref (n + 32))], [.ref (n + 33), .ref (n + 33), .ref (n + 32)], (ly_fo n M (ly_io.drop 65)))) rfl ?_
  refine nt_rn_c (g := 85) (q := 2) (vs := [.ref (n + 33)]) (rest := [.ref (n + 33), .ref (n + 32)]) (e := (9, .invokespecial 11, 85, 0)) rfl rfl (Or.inr (Or.inr ⟨_, rfl, rfl⟩)) rfl (fun h => by cases h) (fun _ => rfl) (ly_i9 hn hb) ?_
  refine nt_rn_s (c' := (15, [(0, .ref (n + 32))], [], (ly_fo n M (ly_io.drop 48)))) (e := (12, .putfield 12, 600, 0)) rfl rfl (nt_x_put (c := 6) (M' := (ly_fo n M (ly_io.drop 48))) (by rw [ly_fo_n, hn]; show n + 32 < n + 42; omega) (ly_fo_k (i := 32) (q := (6, 0)) (l := ly_io.drop 49) hn rfl).1 rfl rfl) ?_
  refine nt_rn_b 1 (c' := (16, [(0, .ref (n + 32))], [.ref (n + 32)], (ly_fo n M (ly_io.drop 48)))) rfl ?_
  refine nt_rn_b 1 (c' := (18, [(0, .ref (n + 32))], [.int (Int32.ofInt 6), .ref (n + 32)], (ly_fo n M (ly_io.drop 48)))) rfl ?_
  refine nt_rn_s (c' := (20, [(0, .ref (n + 32))], [.ref (n + 42), .ref (n + 32)], (ly_fo n M (ly_io.drop 47)))) (e := (18, .newarray .int, 0, 0)) rfl rfl (ly_x_arr (c := n + 42) (k := 6) (by rw [ly_fo_n, hn]; rfl) (by omega) (by decide) (by decide) (by decide)) ?_
  refine nt_rn_s (c' := (23, [(0, .ref (n + 32))], [], (ly_fo n M (ly_io.drop 46)))) (e := (20, .putfield 18, 607, 0)) rfl rfl (nt_x_put (c := 6) (M' := (ly_fo n M (ly_io.drop 46))) (by rw [ly_fo_n, hn]; show n + 32 < n + 43; omega) (ly_fo_k (i := 32) (q := (6, 0)) (l := ly_io.drop 47) hn rfl).1 rfl rfl) ?_
  refine nt_rn_b 1 (c' := (24, [(0, .ref (n + 32))], [.ref (n + 32)], (ly_fo n M (ly_io.drop 46)))) rfl ?_
  refine nt_rn_b 1 (c' := (26, [(0, .ref (n + 32))], [.int (Int32.ofInt 6), .ref (n + 32)], (ly_fo n M (ly_io.drop 46)))) rfl ?_
  refine nt_rn_s (c' := (28, [(0, .ref (n + 32))], [.ref (n + 43), .ref (n + 32)], (ly_fo n M (ly_io.drop 45)))) (e := (26, .newarray .int, 0, 0)) rfl rfl (ly_x_arr (c := n + 43) (k := 6) (by rw [ly_fo_n, hn]; rfl) (by omega) (by decide) (by decide) (by decide)) ?_
  refine nt_rn_s (c' := (31, [(0, .ref (n + 32))], [], (ly_fo n M (ly_io.drop 44)))) (e := (28, .putfield 22, 608, 0)) rfl rfl (nt_x_put (c := 6) (M' := (ly_fo n M (ly_io.drop 44))) (by rw [ly_fo_n, hn]; show n + 32 < n + 44; omega) (ly_fo_k (i := 32) (q := (6, 0)) (l := ly_io.drop 45) hn rfl).1 rfl rfl) ?_
  refine nt_rn_b 1 (c' := (32, [(0, .ref (n + 32))], [.ref (n + 32)], (ly_fo n M (ly_io.drop 44)))) rfl ?_
  refine nt_rn_b 1 (c' := (34, [(0, .ref (n + 32))], [.int (Int32.ofInt 6), .ref (n + 32)], (ly_fo n M (ly_io.drop 44)))) rfl ?_
  refine nt_rn_s (c' := (36, [(0, .ref (n + 32))], [.ref (n + 44), .ref (n + 32)], (ly_fo n M (ly_io.drop 43)))) (e := (34, .newarray .int, 0, 0)) rfl rfl (ly_x_arr (c := n + 44) (k := 6) (by rw [ly_fo_n, hn]; rfl) (by omega) (by decide) (by decide) (by decide)) ?_
  refine nt_rn_s (c' := (39, [(0, .ref (n + 32))], [], (ly_fo n M (ly_io.drop 42)))) (e := (36, .putfield 25, 609, 0)) rfl rfl (nt_x_put (c := 6) (M' := (ly_fo n M (ly_io.drop 42))) (by rw [ly_fo_n, hn]; show n + 32 < n + 45; omega) (ly_fo_k (i := 32) (q := (6, 0)) (l := ly_io.drop 43) hn rfl).1 rfl rfl) ?_
  refine nt_rn_b 1 (c' := (40, [(0, .ref (n + 32))], [.ref (n + 32)], (ly_fo n M (ly_io.drop 42)))) rfl ?_
  refine nt_rn_b 1 (c' := (42, [(0, .ref (n + 32))], [.int (Int32.ofInt 24), .ref (n + 32)], (ly_fo n M (ly_io.drop 42)))) rfl ?_
  refine nt_rn_s (c' := (44, [(0, .ref (n + 32))], [.ref (n + 45), .ref (n + 32)], (ly_fo n M (ly_io.drop 41)))) (e := (42, .newarray .int, 0, 0)) rfl rfl (ly_x_arr (c := n + 45) (k := 24) (by rw [ly_fo_n, hn]; rfl) (by omega) (by decide) (by decide) (by decide)) ?_
  refine nt_rn_s (c' := (47, [(0, .ref (n + 32))], [], (ly_fo n M (ly_io.drop 40)))) (e := (44, .putfield 28, 610, 0)) rfl rfl (nt_x_put (c := 6) (M' := (ly_fo n M (ly_io.drop 40))) (by rw [ly_fo_n, hn]; show n + 32 < n + 46; omega) (ly_fo_k (i := 32) (q := (6, 0)) (l := ly_io.drop 41) hn rfl).1 rfl rfl) ?_
  refine nt_rn_b 1 (c' := (48, [(0, .ref (n + 32))], [.ref (n + 32)], (ly_fo n M (ly_io.drop 40)))) rfl ?_
  refine nt_rn_b 1 (c' := (50, [(0, .ref (n + 32))], [.int (Int32.ofInt 24), .ref (n + 32)], (ly_fo n M (ly_io.drop 40)))) rfl ?_
  refine nt_rn_s (c' := (52, [(0, .ref (n + 32))], [.ref (n + 46), .ref (n + 32)], (ly_fo n M (ly_io.drop 39)))) (e := (50, .newarray .int, 0, 0)) rfl rfl (ly_x_arr (c := n + 46) (k := 24) (by rw [ly_fo_n, hn]; rfl) (by omega) (by decide) (by decide) (by decide)) ?_
  refine nt_rn_s (c' := (55, [(0, .ref (n + 32))], [], (ly_fo n M (ly_io.drop 38)))) (e := (52, .putfield 31, 611, 0)) rfl rfl (nt_x_put (c := 6) (M' := (ly_fo n M (ly_io.drop 38))) (by rw [ly_fo_n, hn]; show n + 32 < n + 47; omega) (ly_fo_k (i := 32) (q := (6, 0)) (l := ly_io.drop 39) hn rfl).1 rfl rfl) ?_
  refine nt_rn_b 1 (c' := (56, [(0, .ref (n + 32))], [.ref (n + 32)], (ly_fo n M (ly_io.drop 38)))) rfl ?_
  refine nt_rn_b 1 (c' := (58, [(0, .ref (n + 32))], [.int (Int32.ofInt 24), .ref (n + 32)], (ly_fo n M (ly_io.drop 38)))) rfl ?_
  refine nt_rn_s (c' := (60, [(0, .ref (n + 32))], [.ref (n + 47), .ref (n + 32)], (ly_fo n M (ly_io.drop 37)))) (e := (58, .newarray .boolean, 0, 0)) rfl rfl (ly_x_arr (c := n + 47) (k := 24) (by rw [ly_fo_n, hn]; rfl) (by omega) (by decide) (by decide) (by decide)) ?_
  refine nt_rn_s (c' := (63, [(0, .ref (n + 32))], [], (ly_fo n M (ly_io.drop 36)))) (e := (60, .putfield 34, 612, 0)) rfl rfl (nt_x_put (c := 6) (M' := (ly_fo n M (ly_io.drop 36))) (by rw [ly_fo_n, hn]; show n + 32 < n + 48; omega) (ly_fo_k (i := 32) (q := (6, 0)) (l := ly_io.drop 37) hn rfl).1 rfl rfl) ?_
  refine nt_rn_b 1 (c' := (64, [(0, .ref (n + 32))], [.ref (n + 32)], (ly_fo n M (ly_io.drop 36)))) rfl ?_
  refine nt_rn_b 1 (c' := (66, [(0, .ref (n + 32))], [.int (Int32.ofInt 8), .ref (n + 32)], (ly_fo n M (ly_io.drop 36)))) rfl ?_
  refine nt_rn_s (c' := (68, [(0, .ref (n + 32))], [.ref (n + 48), .ref (n + 32)], (ly_fo n M (ly_io.drop 35)))) (e := (66, .newarray .int, 0, 0)) rfl rfl (ly_x_arr (c := n + 48) (k := 8) (by rw [ly_fo_n, hn]; rfl) (by omega) (by decide) (by decide) (by decide)) ?_
  refine nt_rn_s (c' := (71, [(0, .ref (n + 32))], [], (ly_fo n M (ly_io.drop 34)))) (e := (68, .putfield 38, 613, 0)) rfl rfl (nt_x_put (c := 6) (M' := (ly_fo n M (ly_io.drop 34))) (by rw [ly_fo_n, hn]; show n + 32 < n + 49; omega) (ly_fo_k (i := 32) (q := (6, 0)) (l := ly_io.drop 35) hn rfl).1 rfl rfl) ?_
  exact nt_rn_rv (e := (71, .return_, 0, 0)) rfl rfl rfl rfl
theorem ly_i11 {X : nt_X} {d n : Nat} {M : nt_M} (hn : nt_n M = n) (hb : n + 100 < nt_sp) : nt_ev X (d + 3) 101 [.ref (n + 0)] (ly_fo n M (ly_io.drop 131)) (none, (ly_fo n M (ly_io.drop 31))) := by
  refine nt_rn_b 1 (c' := (1, [(0, .ref (n + 0))], [.ref (n + 0)], (ly_fo n M (ly_io.drop 131)))) rfl ?_
  refine nt_rn_n (g := 1000) (q := 2) (c' := (4, [(0, .ref (n + 0))], [], (ly_fo n M (ly_io.drop 131)))) (e := (1, .invokespecial 1, 1000, 0)) rfl rfl (by decide) (Or.inr (Or.inr ⟨_, rfl, rfl⟩)) (ly_x_obj (by omega) (Nat.le_of_ble_eq_true rfl)) ?_
  refine nt_rn_b 1 (c' := (5, [(0, .ref (n + 0))], [.ref (n + 0)], (ly_fo n M (ly_io.drop 131)))) rfl ?_
  refine nt_rn_s (c' := (8, [(0, .ref (n + 0))], [.ref (n + 1), .ref (n + 0)], (ly_fo n M (ly_io.drop 130)))) (e := (5, .new 7, 7, 0)) rfl rfl (ly_x_new (c := n + 1) (by rw [ly_fo_n, hn]; rfl) (by omega) (by decide)) ?_
  refine nt_rn_b 1 (c' := (9, [(0, .ref (n + 0))], [.ref (n + 1), .ref (n + 1), .ref (n + 0)], (ly_fo n M (ly_io.drop 130)))) rfl ?_
  refine nt_rn_c (g := 83) (q := 2) (vs := [.ref (n + 1)]) (rest := [.ref (n + 1), .ref (n + 0)]) (e := (9, .invokespecial 9, 83, 0)) rfl rfl (Or.inr (Or.inr ⟨_, rfl, rfl⟩)) rfl (fun h => by cases h) (fun _ => rfl) (ly_i0 hn hb) ?_
  refine nt_rn_s (c' := (15, [(0, .ref (n + 0))], [], (ly_fo n M (ly_io.drop 127)))) (e := (12, .putfield 10, 1000, 0)) rfl rfl (nt_x_put (c := 10) (M' := (ly_fo n M (ly_io.drop 127))) (by rw [ly_fo_n, hn]; show n + 0 < n + 3; omega) (ly_fo_k (i := 0) (q := (10, 0)) (l := ly_io.drop 128) hn rfl).1 rfl rfl) ?_
  refine nt_rn_s (c' := (18, [(0, .ref (n + 0))], [.ref (n + 3)], (ly_fo n M (ly_io.drop 126)))) (e := (15, .new 16, 2, 0)) rfl rfl (ly_x_new (c := n + 3) (by rw [ly_fo_n, hn]; rfl) (by omega) (by decide)) ?_
  refine nt_rn_b 1 (c' := (19, [(0, .ref (n + 0))], [.ref (n + 3), .ref (n + 3)], (ly_fo n M (ly_io.drop 126)))) rfl ?_
  refine nt_rn_b 1 (c' := (20, [(0, .ref (n + 0))], [.ref (n + 0), .ref (n + 3), .ref (n + 3)], (ly_fo n M (ly_io.drop 126)))) rfl ?_
  refine nt_rn_s (c' := (23, [(0, .ref (n + 0))], [.ref (n + 1), .ref (n + 3), .ref (n + 3)], (ly_fo n M (ly_io.drop 126)))) (e := (20, .getfield 10, 1000, 0)) rfl rfl (nt_x_get (c := 10) (v := .ref (n + 1)) (by rw [ly_fo_n, hn]; show n + 0 < n + 4; omega) (ly_fo_k (i := 0) (q := (10, 0)) (l := ly_io.drop 126) hn rfl).1 rfl (nt_gfR rfl ((ly_fo_R (i := 0) hn (ly_io.drop 126) (by decide) 0).trans rfl))) ?_
  refine nt_rn_c (g := 27) (q := 2) (vs := [.ref (n + 3), .ref (n + 1)]) (rest := [.ref (n + 3)]) (e := (23, .invokespecial 18, 27, 0)) rfl rfl (Or.inr (Or.inr ⟨_, rfl, rfl⟩)) rfl (fun h => by cases h) (fun _ => rfl) (ly_i1 hn hb) ?_
  refine nt_rn_b 1 (c' := (27, [(1, .ref (n + 3)), (0, .ref (n + 0))], [], (ly_fo n M (ly_io.drop 125)))) rfl ?_
  refine nt_rn_b 1 (c' := (28, [(1, .ref (n + 3)), (0, .ref (n + 0))], [.ref (n + 0)], (ly_fo n M (ly_io.drop 125)))) rfl ?_
  refine nt_rn_s (c' := (31, [(1, .ref (n + 3)), (0, .ref (n + 0))], [.ref (n + 4), .ref (n + 0)], (ly_fo n M (ly_io.drop 124)))) (e := (28, .new 21, 9, 0)) rfl rfl (ly_x_new (c := n + 4) (by rw [ly_fo_n, hn]; rfl) (by omega) (by decide)) ?_
  refine nt_rn_b 1 (c' := (32, [(1, .ref (n + 3)), (0, .ref (n + 0))], [.ref (n + 4), .ref (n + 4), .ref (n + 0)], (ly_fo n M (ly_io.drop 124)))) rfl ?_
  refine nt_rn_b 1 (c' := (33, [(1, .ref (n + 3)), (0, .ref (n + 0))], [.ref (n + 3), .ref (n + 4), .ref (n + 4), .ref (n + 0)], (ly_fo n M (ly_io.drop 124)))) rfl ?_
  refine nt_rn_c (g := 91) (q := 2) (vs := [.ref (n + 4), .ref (n + 3)]) (rest := [.ref (n + 4), .ref (n + 0)]) (e := (33, .invokespecial 23, 91, 0)) rfl rfl (Or.inr (Or.inr ⟨_, rfl, rfl⟩)) rfl (fun h => by cases h) (fun _ => rfl) (ly_i2 hn hb) ?_
  refine nt_rn_s (c' := (39, [(1, .ref (n + 3)), (0, .ref (n + 0))], [], (ly_fo n M (ly_io.drop 122)))) (e := (36, .putfield 26, 1001, 0)) rfl rfl (nt_x_put (c := 10) (M' := (ly_fo n M (ly_io.drop 122))) (by rw [ly_fo_n, hn]; show n + 0 < n + 5; omega) (ly_fo_k (i := 0) (q := (10, 0)) (l := ly_io.drop 123) hn rfl).1 rfl rfl) ?_
  refine nt_rn_b 1 (c' := (40, [(1, .ref (n + 3)), (0, .ref (n + 0))], [.ref (n + 0)], (ly_fo n M (ly_io.drop 122)))) rfl ?_
  refine nt_rn_s (c' := (43, [(1, .ref (n + 3)), (0, .ref (n + 0))], [.ref (n + 5), .ref (n + 0)], (ly_fo n M (ly_io.drop 121)))) (e := (40, .new 30, 5, 0)) rfl rfl (ly_x_new (c := n + 5) (by rw [ly_fo_n, hn]; rfl) (by omega) (by decide)) ?_
  refine nt_rn_b 1 (c' := (44, [(1, .ref (n + 3)), (0, .ref (n + 0))], [.ref (n + 5), .ref (n + 5), .ref (n + 0)], (ly_fo n M (ly_io.drop 121)))) rfl ?_
  refine nt_rn_b 1 (c' := (45, [(1, .ref (n + 3)), (0, .ref (n + 0))], [.ref (n + 3), .ref (n + 5), .ref (n + 5), .ref (n + 0)], (ly_fo n M (ly_io.drop 121)))) rfl ?_
  refine nt_rn_c (g := 47) (q := 2) (vs := [.ref (n + 5), .ref (n + 3)]) (rest := [.ref (n + 5), .ref (n + 0)]) (e := (45, .invokespecial 32, 47, 0)) rfl rfl (Or.inr (Or.inr ⟨_, rfl, rfl⟩)) rfl (fun h => by cases h) (fun _ => rfl) (ly_i3 hn hb) ?_
  refine nt_rn_s (c' := (51, [(1, .ref (n + 3)), (0, .ref (n + 0))], [], (ly_fo n M (ly_io.drop 117)))) (e := (48, .putfield 33, 1002, 0)) rfl rfl (nt_x_put (c := 10) (M' := (ly_fo n M (ly_io.drop 117))) (by rw [ly_fo_n, hn]; show n + 0 < n + 7; omega) (ly_fo_k (i := 0) (q := (10, 0)) (l := ly_io.drop 118) hn rfl).1 rfl rfl) ?_
  refine nt_rn_b 1 (c' := (52, [(1, .ref (n + 3)), (0, .ref (n + 0))], [.ref (n + 0)], (ly_fo n M (ly_io.drop 117)))) rfl ?_
  refine nt_rn_b 1 (c' := (54, [(1, .ref (n + 3)), (0, .ref (n + 0))], [.int (Int32.ofInt 6), .ref (n + 0)], (ly_fo n M (ly_io.drop 117)))) rfl ?_
  refine nt_rn_s (c' := (57, [(1, .ref (n + 3)), (0, .ref (n + 0))], [.ref (n + 7), .ref (n + 0)], (ly_fo n M (ly_io.drop 116)))) (e := (54, .anewarray 37, 4, 0)) rfl rfl (ly_x_anew (c := n + 7) (k := 6) (by rw [ly_fo_n, hn]; rfl) (by omega) (by decide) (by decide) (by decide)) ?_
  refine nt_rn_s (c' := (60, [(1, .ref (n + 3)), (0, .ref (n + 0))], [], (ly_fo n M (ly_io.drop 115)))) (e := (57, .putfield 39, 1003, 0)) rfl rfl (nt_x_put (c := 10) (M' := (ly_fo n M (ly_io.drop 115))) (by rw [ly_fo_n, hn]; show n + 0 < n + 8; omega) (ly_fo_k (i := 0) (q := (10, 0)) (l := ly_io.drop 116) hn rfl).1 rfl rfl) ?_
  refine nt_rn_b 1 (c' := (61, [(1, .ref (n + 3)), (0, .ref (n + 0))], [.ref (n + 0)], (ly_fo n M (ly_io.drop 115)))) rfl ?_
  refine nt_rn_s (c' := (64, [(1, .ref (n + 3)), (0, .ref (n + 0))], [.ref (n + 8), .ref (n + 0)], (ly_fo n M (ly_io.drop 114)))) (e := (61, .new 43, 0, 0)) rfl rfl (ly_x_new (c := n + 8) (by rw [ly_fo_n, hn]; rfl) (by omega) (by decide)) ?_
  refine nt_rn_b 1 (c' := (65, [(1, .ref (n + 3)), (0, .ref (n + 0))], [.ref (n + 8), .ref (n + 8), .ref (n + 0)], (ly_fo n M (ly_io.drop 114)))) rfl ?_
  refine nt_rn_c (g := 0) (q := 2) (vs := [.ref (n + 8)]) (rest := [.ref (n + 8), .ref (n + 0)]) (e := (65, .invokespecial 45, 0, 0)) rfl rfl (Or.inr (Or.inr ⟨_, rfl, rfl⟩)) rfl (fun h => by cases h) (fun _ => rfl) (ly_i5 hn hb) ?_
  refine nt_rn_s (c' := (71, [(1, .ref (n + 3)), (0, .ref (n + 0))], [], (ly_fo n M (ly_io.drop 107)))) (e := (68, .putfield 46, 1005, 0)) rfl rfl (nt_x_put (c := 10) (M' := (ly_fo n M (ly_io.drop 107))) (by rw [ly_fo_n, hn]; show n + 0 < n + 12; omega) (ly_fo_k (i := 0) (q := (10, 0)) (l := ly_io.drop 108) hn rfl).1 rfl rfl) ?_
  refine nt_rn_b 1 (c' := (72, [(1, .ref (n + 3)), (0, .ref (n + 0))], [.ref (n + 0)], (ly_fo n M (ly_io.drop 107)))) rfl ?_
  refine nt_rn_s (c' := (75, [(1, .ref (n + 3)), (0, .ref (n + 0))], [.ref (n + 12), .ref (n + 0)], (ly_fo n M (ly_io.drop 106)))) (e := (72, .new 50, 1, 0)) rfl rfl (ly_x_new (c := n + 12) (by rw [ly_fo_n, hn]; rfl) (by omega) (by decide)) ?_
  refine nt_rn_b 1 (c' := (76, [(1, .ref (n + 3)), (0, .ref (n + 0))], [.ref (n + 12), .ref (n + 12), .ref (n + 0)], (ly_fo n M (ly_io.drop 106)))) rfl ?_
  refine nt_rn_c (g := 11) (q := 2) (vs := [.ref (n + 12)]) (rest := [.ref (n + 12), .ref (n + 0)]) (e := (76, .invokespecial 52, 11, 0)) rfl rfl (Or.inr (Or.inr ⟨_, rfl, rfl⟩)) rfl (fun h => by cases h) (fun _ => rfl) (ly_i6 hn hb) ?_
  refine nt_rn_s (c' := (82, [(1, .ref (n + 3)), (0, .ref (n + 0))], [], (ly_fo n M (ly_io.drop 101)))) (e := (79, .putfield 53, 1006, 0)) rfl rfl (nt_x_put (c := 10) (M' := (ly_fo n M (ly_io.drop 101))) (by rw [ly_fo_n, hn]; show n + 0 < n + 15; omega) (ly_fo_k (i := 0) (q := (10, 0)) (l := ly_io.drop 102) hn rfl).1 rfl rfl) ?_
  refine nt_rn_b 1 (c' := (83, [(1, .ref (n + 3)), (0, .ref (n + 0))], [.ref (n + 0)], (ly_fo n M (ly_io.drop 101)))) rfl ?_
  refine nt_rn_s (c' := (86, [(1, .ref (n + 3)), (0, .ref (n + 0))], [.ref (n + 15), .ref (n + 0)], (ly_fo n M (ly_io.drop 100)))) (e := (83, .new 57, 6, 0)) rfl rfl (ly_x_new (c := n + 15) (by rw [ly_fo_n, hn]; rfl) (by omega) (by decide)) ?_
  refine nt_rn_b 1 (c' := (87, [(1, .ref (n + 3)), (0, .ref (n + 0))], [.ref (n + 15), .ref (n + 15), .ref (n + 0)], (ly_fo n M (ly_io.drop 100)))) rfl ?_
  refine nt_rn_c (g := 63) (q := 2) (vs := [.ref (n + 15)]) (rest := [.ref (n + 15), .ref (n + 0)]) (e := (87, .invokespecial 59, 63, 0)) rfl rfl (Or.inr (Or.inr ⟨_, rfl, rfl⟩)) rfl (fun h => by cases h) (fun _ => rfl) (ly_i8 hn hb) ?_
  refine nt_rn_s (c' := (93, [(1, .ref (n + 3)), (0, .ref (n + 0))], [], (ly_fo n M (ly_io.drop 67)))) (e := (90, .putfield 60, 1007, 0)) rfl rfl (nt_x_put (c := 10) (M' := (ly_fo n M (ly_io.drop 67))) (by rw [ly_fo_n, hn]; show n + 0 < n + 32; omega) (ly_fo_k (i := 0) (q := (10, 0)) (l := ly_io.drop 68) hn rfl).1 rfl rfl) ?_
  refine nt_rn_b 1 (c' := (94, [(1, .ref (n + 3)), (0, .ref (n + 0))], [.ref (n + 0)], (ly_fo n M (ly_io.drop 67)))) rfl ?_
  refine nt_rn_s (c' := (97, [(1, .ref (n + 3)), (0, .ref (n + 0))], [.ref (n + 32), .ref (n + 0)], (ly_fo n M (ly_io.drop 66)))) (e := (94, .new 57, 6, 0)) rfl rfl (ly_x_new (c := n + 32) (by rw [ly_fo_n, hn]; rfl) (by omega) (by decide)) ?_
  refine nt_rn_b 1 (c' := (98, [(1, .ref (n + 3)), (0, .ref (n + 0))], [.ref (n + 32), .ref (n + 32), .ref (n + 0)], (ly_fo n M (ly_io.drop 66)))) rfl ?_
  refine nt_rn_c (g := 63) (q := 2) (vs := [.ref (n + 32)]) (rest := [.ref (n + 32), .ref (n + 0)]) (e := (98, .invokespecial 59, 63, 0)) rfl rfl (Or.inr (Or.inr ⟨_, rfl, rfl⟩)) rfl (fun h => by cases h) (fun _ => rfl) (ly_i10 hn hb) ?_
  refine nt_rn_s (c' := (104, [(1, .ref (n + 3)), (0, .ref (n + 0))], [], (ly_fo n M (ly_io.drop 33)))) (e := (101, .putfield 64, 1008, 0)) rfl rfl (nt_x_put (c := 10) (M' := (ly_fo n M (ly_io.drop 33))) (by rw [ly_fo_n, hn]; show n + 0 < n + 49; omega) (ly_fo_k (i := 0) (q := (10, 0)) (l := ly_io.drop 34) hn rfl).1 rfl rfl) ?_
  refine nt_rn_b 1 (c' := (105, [(1, .ref (n + 3)), (0, .ref (n + 0))], [.ref (n + 0)], (ly_fo n M (ly_io.drop 33)))) rfl ?_
  refine nt_rn_b 1 (c' := (106, [(1, .ref (n + 3)), (0, .ref (n + 0))], [.int (Int32.ofInt 4), .ref (n + 0)], (ly_fo n M (ly_io.drop 33)))) rfl ?_
  refine nt_rn_s (c' := (109, [(1, .ref (n + 3)), (0, .ref (n + 0))], [.ref (n + 49), .ref (n + 0)], (ly_fo n M (ly_io.drop 32)))) (e := (106, .anewarray 57, 6, 0)) rfl rfl (ly_x_anew (c := n + 49) (k := 4) (by rw [ly_fo_n, hn]; rfl) (by omega) (by decide) (by decide) (by decide)) ?_
  refine nt_rn_s (c' := (112, [(1, .ref (n + 3)), (0, .ref (n + 0))], [], (ly_fo n M (ly_io.drop 31)))) (e := (109, .putfield 67, 1009, 0)) rfl rfl (nt_x_put (c := 10) (M' := (ly_fo n M (ly_io.drop 31))) (by rw [ly_fo_n, hn]; show n + 0 < n + 50; omega) (ly_fo_k (i := 0) (q := (10, 0)) (l := ly_io.drop 32) hn rfl).1 rfl rfl) ?_
  exact nt_rn_rv (e := (112, .return_, 0, 0)) rfl rfl rfl rfl
theorem ly_i12 {X : nt_X} {d n : Nat} {M : nt_M} (hn : nt_n M = n) (hb : n + 100 < nt_sp) : nt_ev X (d + 1) 129 [.ref (n + 50)] (ly_fo n M (ly_io.drop 30)) (none, (ly_fo n M (ly_io.drop 0))) := by
  refine nt_rn_b 1 (c' := (1, [(0, .ref (n + 50))], [.ref (n + 50)], (ly_fo n M (ly_io.drop 30)))) rfl ?_
  refine nt_rn_n (g := 1000) (q := 2) (c' := (4, [(0, .ref (n + 50))], [], (ly_fo n M (ly_io.drop 30)))) (e := (1, .invokespecial 1, 1000, 0)) rfl rfl (by decide) (Or.inr (Or.inr ⟨_, rfl, rfl⟩)) (ly_x_obj (by omega) (Nat.le_of_ble_eq_true rfl)) ?_
  refine nt_rn_b 1 (c' := (5, [(0, .ref (n + 50))], [.ref (n + 50)], (ly_fo n M (ly_io.drop 30)))) rfl ?_
  refine nt_rn_b 1 (c' := (8, [(0, .ref (n + 50))], [.int (Int32.ofInt 400), .ref (n + 50)], (ly_fo n M (ly_io.drop 30)))) rfl ?_
  refine nt_rn_s (c' := (10, [(0, .ref (n + 50))], [.ref (n + 51), .ref (n + 50)], (ly_fo n M (ly_io.drop 29)))) (e := (8, .newarray .byte, 0, 0)) rfl rfl (ly_x_arr (c := n + 51) (k := 400) (by rw [ly_fo_n, hn]; rfl) (by omega) (by decide) (by decide) (by decide)) ?_
  refine nt_rn_s (c' := (13, [(0, .ref (n + 50))], [], (ly_fo n M (ly_io.drop 28)))) (e := (10, .putfield 7, 1100, 0)) rfl rfl (nt_x_put (c := 11) (M' := (ly_fo n M (ly_io.drop 28))) (by rw [ly_fo_n, hn]; show n + 50 < n + 52; omega) (ly_fo_k (i := 50) (q := (11, 0)) (l := ly_io.drop 29) hn rfl).1 rfl rfl) ?_
  refine nt_rn_b 1 (c' := (14, [(0, .ref (n + 50))], [.ref (n + 50)], (ly_fo n M (ly_io.drop 28)))) rfl ?_
  refine nt_rn_b 1 (c' := (17, [(0, .ref (n + 50))], [.int (Int32.ofInt 2400), .ref (n + 50)], (ly_fo n M (ly_io.drop 28)))) rfl ?_
  refine nt_rn_s (c' := (19, [(0, .ref (n + 50))], [.ref (n + 52), .ref (n + 50)], (ly_fo n M (ly_io.drop 27)))) (e := (17, .newarray .int, 0, 0)) rfl rfl (ly_x_arr (c := n + 52) (k := 2400) (by rw [ly_fo_n, hn]; rfl) (by omega) (by decide) (by decide) (by decide)) ?_
  refine nt_rn_s (c' := (22, [(0, .ref (n + 50))], [], (ly_fo n M (ly_io.drop 26)))) (e := (19, .putfield 13, 1103, 0)) rfl rfl (nt_x_put (c := 11) (M' := (ly_fo n M (ly_io.drop 26))) (by rw [ly_fo_n, hn]; show n + 50 < n + 53; omega) (ly_fo_k (i := 50) (q := (11, 0)) (l := ly_io.drop 27) hn rfl).1 rfl rfl) ?_
  refine nt_rn_b 1 (c' := (23, [(0, .ref (n + 50))], [.ref (n + 50)], (ly_fo n M (ly_io.drop 26)))) rfl ?_
  refine nt_rn_b 1 (c' := (25, [(0, .ref (n + 50))], [.int (Int32.ofInt 7), .ref (n + 50)], (ly_fo n M (ly_io.drop 26)))) rfl ?_
  refine nt_rn_s (c' := (27, [(0, .ref (n + 50))], [.ref (n + 53), .ref (n + 50)], (ly_fo n M (ly_io.drop 25)))) (e := (25, .newarray .int, 0, 0)) rfl rfl (ly_x_arr (c := n + 53) (k := 7) (by rw [ly_fo_n, hn]; rfl) (by omega) (by decide) (by decide) (by decide)) ?_
  refine nt_rn_s (c' := (30, [(0, .ref (n + 50))], [], (ly_fo n M (ly_io.drop 24)))) (e := (27, .putfield 17, 1104, 0)) rfl rfl (nt_x_put (c := 11) (M' := (ly_fo n M (ly_io.drop 24))) (by rw [ly_fo_n, hn]; show n + 50 < n + 54; omega) (ly_fo_k (i := 50) (q := (11, 0)) (l := ly_io.drop 25) hn rfl).1 rfl rfl) ?_
  refine nt_rn_b 1 (c' := (31, [(0, .ref (n + 50))], [.ref (n + 50)], (ly_fo n M (ly_io.drop 24)))) rfl ?_
  refine nt_rn_b 1 (c' := (34, [(0, .ref (n + 50))], [.int (Int32.ofInt 288), .ref (n + 50)], (ly_fo n M (ly_io.drop 24)))) rfl ?_
  refine nt_rn_s (c' := (36, [(0, .ref (n + 50))], [.ref (n + 54), .ref (n + 50)], (ly_fo n M (ly_io.drop 23)))) (e := (34, .newarray .int, 0, 0)) rfl rfl (ly_x_arr (c := n + 54) (k := 288) (by rw [ly_fo_n, hn]; rfl) (by omega) (by decide) (by decide) (by decide)) ?_
  refine nt_rn_s (c' := (39, [(0, .ref (n + 50))], [], (ly_fo n M (ly_io.drop 22)))) (e := (36, .putfield 20, 1105, 0)) rfl rfl (nt_x_put (c := 11) (M' := (ly_fo n M (ly_io.drop 22))) (by rw [ly_fo_n, hn]; show n + 50 < n + 55; omega) (ly_fo_k (i := 50) (q := (11, 0)) (l := ly_io.drop 23) hn rfl).1 rfl rfl) ?_
  refine nt_rn_b 1 (c' := (40, [(0, .ref (n + 50))], [.ref (n + 50)], (ly_fo n M (ly_io.drop 22)))) rfl ?_
  refine nt_rn_b 1 (c' := (42, [(0, .ref (n + 50))], [.int (Int32.ofInt 6), .ref (n + 50)], (ly_fo n M (ly_io.drop 22)))) rfl ?_
  refine nt_rn_s (c' := (44, [(0, .ref (n + 50))], [.ref (n + 55), .ref (n + 50)], (ly_fo n M (ly_io.drop 21)))) (e := (42, .newarray .int, 0, 0)) rfl rfl (ly_x_arr (c := n + 55) (k := 6) (by rw [ly_fo_n, hn]; rfl) (by omega) (by decide) (by decide) (by decide)) ?_
  refine nt_rn_s (c' := (47, [(0, .ref (n + 50))], [], (ly_fo n M (ly_io.drop 20)))) (e := (44, .putfield 23, 1106, 0)) rfl rfl (nt_x_put (c := 11) (M' := (ly_fo n M (ly_io.drop 20))) (by rw [ly_fo_n, hn]; show n + 50 < n + 56; omega) (ly_fo_k (i := 50) (q := (11, 0)) (l := ly_io.drop 21) hn rfl).1 rfl rfl) ?_
  refine nt_rn_b 1 (c' := (48, [(0, .ref (n + 50))], [.ref (n + 50)], (ly_fo n M (ly_io.drop 20)))) rfl ?_
  refine nt_rn_b 1 (c' := (50, [(0, .ref (n + 50))], [.int (Int32.ofInt 24), .ref (n + 50)], (ly_fo n M (ly_io.drop 20)))) rfl ?_
  refine nt_rn_s (c' := (52, [(0, .ref (n + 50))], [.ref (n + 56), .ref (n + 50)], (ly_fo n M (ly_io.drop 19)))) (e := (50, .newarray .int, 0, 0)) rfl rfl (ly_x_arr (c := n + 56) (k := 24) (by rw [ly_fo_n, hn]; rfl) (by omega) (by decide) (by decide) (by decide)) ?_
  refine nt_rn_s (c' := (55, [(0, .ref (n + 50))], [], (ly_fo n M (ly_io.drop 18)))) (e := (52, .putfield 26, 1112, 0)) rfl rfl (nt_x_put (c := 11) (M' := (ly_fo n M (ly_io.drop 18))) (by rw [ly_fo_n, hn]; show n + 50 < n + 57; omega) (ly_fo_k (i := 50) (q := (11, 0)) (l := ly_io.drop 19) hn rfl).1 rfl rfl) ?_
  refine nt_rn_b 1 (c' := (56, [(0, .ref (n + 50))], [.ref (n + 50)], (ly_fo n M (ly_io.drop 18)))) rfl ?_
  refine nt_rn_b 1 (c' := (58, [(0, .ref (n + 50))], [.int (Int32.ofInt 72), .ref (n + 50)], (ly_fo n M (ly_io.drop 18)))) rfl ?_
  refine nt_rn_s (c' := (60, [(0, .ref (n + 50))], [.ref (n + 57), .ref (n + 50)], (ly_fo n M (ly_io.drop 17)))) (e := (58, .newarray .int, 0, 0)) rfl rfl (ly_x_arr (c := n + 57) (k := 72) (by rw [ly_fo_n, hn]; rfl) (by omega) (by decide) (by decide) (by decide)) ?_
  refine nt_rn_s (c' := (63, [(0, .ref (n + 50))], [], (ly_fo n M (ly_io.drop 16)))) (e := (60, .putfield 29, 1113, 0)) rfl rfl (nt_x_put (c := 11) (M' := (ly_fo n M (ly_io.drop 16))) (by rw [ly_fo_n, hn]; show n + 50 < n + 58; omega) (ly_fo_k (i := 50) (q := (11, 0)) (l := ly_io.drop 17) hn rfl).1 rfl rfl) ?_
  refine nt_rn_b 1 (c' := (64, [(0, .ref (n + 50))], [.ref (n + 50)], (ly_fo n M (ly_io.drop 16)))) rfl ?_
  refine nt_rn_b 1 (c' := (66, [(0, .ref (n + 50))], [.int (Int32.ofInt 32), .ref (n + 50)], (ly_fo n M (ly_io.drop 16)))) rfl ?_
  refine nt_rn_s (c' := (68, [(0, .ref (n + 50))], [.ref (n + 58), .ref (n + 50)], (ly_fo n M (ly_io.drop 15)))) (e := (66, .newarray .int, 0, 0)) rfl rfl (ly_x_arr (c := n + 58) (k := 32) (by rw [ly_fo_n, hn]; rfl) (by omega) (by decide) (by decide) (by decide)) ?_
  refine nt_rn_s (c' := (71, [(0, .ref (n + 50))], [], (ly_fo n M (ly_io.drop 14)))) (e := (68, .putfield 32, 1114, 0)) rfl rfl (nt_x_put (c := 11) (M' := (ly_fo n M (ly_io.drop 14))) (by rw [ly_fo_n, hn]; show n + 50 < n + 59; omega) (ly_fo_k (i := 50) (q := (11, 0)) (l := ly_io.drop 15) hn rfl).1 rfl rfl) ?_
  refine nt_rn_b 1 (c' := (72, [(0, .ref (n + 50))], [.ref (n + 50)], (ly_fo n M (ly_io.drop 14)))) rfl ?_
  refine nt_rn_b 1 (c' := (75, [(0, .ref (n + 50))], [.int (Int32.ofInt 400), .ref (n + 50)], (ly_fo n M (ly_io.drop 14)))) rfl ?_
  refine nt_rn_s (c' := (77, [(0, .ref (n + 50))], [.ref (n + 59), .ref (n + 50)], (ly_fo n M (ly_io.drop 13)))) (e := (75, .newarray .int, 0, 0)) rfl rfl (ly_x_arr (c := n + 59) (k := 400) (by rw [ly_fo_n, hn]; rfl) (by omega) (by decide) (by decide) (by decide)) ?_
  refine nt_rn_s (c' := (80, [(0, .ref (n + 50))], [], (ly_fo n M (ly_io.drop 12)))) (e := (77, .putfield 35, 1122, 0)) rfl rfl (nt_x_put (c := 11) (M' := (ly_fo n M (ly_io.drop 12))) (by rw [ly_fo_n, hn]; show n + 50 < n + 60; omega) (ly_fo_k (i := 50) (q := (11, 0)) (l := ly_io.drop 13) hn rfl).1 rfl rfl) ?_
  refine nt_rn_b 1 (c' := (81, [(0, .ref (n + 50))], [.ref (n + 50)], (ly_fo n M (ly_io.drop 12)))) rfl ?_
  refine nt_rn_b 1 (c' := (83, [(0, .ref (n + 50))], [.int (Int32.ofInt 64), .ref (n + 50)], (ly_fo n M (ly_io.drop 12)))) rfl ?_
  refine nt_rn_s (c' := (85, [(0, .ref (n + 50))], [.ref (n + 60), .ref (n + 50)], (ly_fo n M (ly_io.drop 11)))) (e := (83, .newarray .long, 0, 0)) rfl rfl (ly_x_arr (c := n + 60) (k := 64) (by rw [ly_fo_n, hn]; rfl) (by omega) (by decide) (by decide) (by decide)) ?_
  refine nt_rn_s (c' := (88, [(0, .ref (n + 50))], [], (ly_fo n M (ly_io.drop 10)))) (e := (85, .putfield 38, 1124, 0)) rfl rfl (nt_x_put (c := 11) (M' := (ly_fo n M (ly_io.drop 10))) (by rw [ly_fo_n, hn]; show n + 50 < n + 61; omega) (ly_fo_k (i := 50) (q := (11, 0)) (l := ly_io.drop 11) hn rfl).1 rfl rfl) ?_
  refine nt_rn_b 1 (c' := (89, [(0, .ref (n + 50))], [.ref (n + 50)], (ly_fo n M (ly_io.drop 10)))) rfl ?_
  refine nt_rn_b 1 (c' := (91, [(0, .ref (n + 50))], [.int (Int32.ofInt 10), .ref (n + 50)], (ly_fo n M (ly_io.drop 10)))) rfl ?_
  refine nt_rn_s (c' := (93, [(0, .ref (n + 50))], [.ref (n + 61), .ref (n + 50)], (ly_fo n M (ly_io.drop 9)))) (e := (91, .newarray .long, 0, 0)) rfl rfl (ly_x_arr (c := n + 61) (k := 10) (by rw [ly_fo_n, hn]; rfl) (by omega) (by decide) (by decide) (by decide)) ?_
  refine nt_rn_s (c' := (96, [(0, .ref (n + 50))], [], (ly_fo n M (ly_io.drop 8)))) (e := (93, .putfield 42, 1126, 0)) rfl rfl (nt_x_put (c := 11) (M' := (ly_fo n M (ly_io.drop 8))) (by rw [ly_fo_n, hn]; show n + 50 < n + 62; omega) (ly_fo_k (i := 50) (q := (11, 0)) (l := ly_io.drop 9) hn rfl).1 rfl rfl) ?_
  refine nt_rn_b 1 (c' := (97, [(0, .ref (n + 50))], [.ref (n + 50)], (ly_fo n M (ly_io.drop 8)))) rfl ?_
  refine nt_rn_b 1 (c' := (100, [(0, .ref (n + 50))], [.int (Int32.ofInt 212), .ref (n + 50)], (ly_fo n M (ly_io.drop 8)))) rfl ?_
  refine nt_rn_s (c' := (102, [(0, .ref (n + 50))], [.ref (n + 62), .ref (n + 50)], (ly_fo n M (ly_io.drop 7)))) (e := (100, .newarray .int, 0, 0)) rfl rfl (ly_x_arr (c := n + 62) (k := 212) (by rw [ly_fo_n, hn]; rfl) (by omega) (by decide) (by decide) (by decide)) ?_
  refine nt_rn_s (c' := (105, [(0, .ref (n + 50))], [], (ly_fo n M (ly_io.drop 6)))) (e := (102, .putfield 45, 1127, 0)) rfl rfl (nt_x_put (c := 11) (M' := (ly_fo n M (ly_io.drop 6))) (by rw [ly_fo_n, hn]; show n + 50 < n + 63; omega) (ly_fo_k (i := 50) (q := (11, 0)) (l := ly_io.drop 7) hn rfl).1 rfl rfl) ?_
  refine nt_rn_b 1 (c' := (106, [(0, .ref (n + 50))], [.ref (n + 50)], (ly_fo n M (ly_io.drop 6)))) rfl ?_
  refine nt_rn_b 1 (c' := (109, [(0, .ref (n + 50))], [.int (Int32.ofInt 212), .ref (n + 50)], (ly_fo n M (ly_io.drop 6)))) rfl ?_
  refine nt_rn_s (c' := (111, [(0, .ref (n + 50))], [.ref (n + 63), .ref (n + 50)], (ly_fo n M (ly_io.drop 5)))) (e := (109, .newarray .int, 0, 0)) rfl rfl (ly_x_arr (c := n + 63) (k := 212) (by rw [ly_fo_n, hn]; rfl) (by omega) (by decide) (by decide) (by decide)) ?_
  refine nt_rn_s (c' := (114, [(0, .ref (n + 50))], [], (ly_fo n M (ly_io.drop 4)))) (e := (111, .putfield 48, 1128, 0)) rfl rfl (nt_x_put (c := 11) (M' := (ly_fo n M (ly_io.drop 4))) (by rw [ly_fo_n, hn]; show n + 50 < n + 64; omega) (ly_fo_k (i := 50) (q := (11, 0)) (l := ly_io.drop 5) hn rfl).1 rfl rfl) ?_
  refine nt_rn_b 1 (c' := (115, [(0, .ref (n + 50))], [.ref (n + 50)], (ly_fo n M (ly_io.drop 4)))) rfl ?_
  refine nt_rn_b 1 (c' := (118, [(0, .ref (n + 50))], [.int (Int32.ofInt 848), .ref (n + 50)], (ly_fo n M (ly_io.drop 4)))) rfl ?_
  refine nt_rn_s (c' := (120, [(0, .ref (n + 50))], [.ref (n + 64), .ref (n + 50)], (ly_fo n M (ly_io.drop 3)))) (e := (118, .newarray .int, 0, 0)) rfl rfl (ly_x_arr (c := n + 64) (k := 848) (by rw [ly_fo_n, hn]; rfl) (by omega) (by decide) (by decide) (by decide)) ?_
  refine nt_rn_s (c' := (123, [(0, .ref (n + 50))], [], (ly_fo n M (ly_io.drop 2)))) (e := (120, .putfield 51, 1129, 0)) rfl rfl (nt_x_put (c := 11) (M' := (ly_fo n M (ly_io.drop 2))) (by rw [ly_fo_n, hn]; show n + 50 < n + 65; omega) (ly_fo_k (i := 50) (q := (11, 0)) (l := ly_io.drop 3) hn rfl).1 rfl rfl) ?_
  refine nt_rn_b 1 (c' := (124, [(0, .ref (n + 50))], [.ref (n + 50)], (ly_fo n M (ly_io.drop 2)))) rfl ?_
  refine nt_rn_b 1 (c' := (125, [(0, .ref (n + 50))], [.int (Int32.ofInt 4), .ref (n + 50)], (ly_fo n M (ly_io.drop 2)))) rfl ?_
  refine nt_rn_s (c' := (127, [(0, .ref (n + 50))], [.ref (n + 65), .ref (n + 50)], (ly_fo n M (ly_io.drop 1)))) (e := (125, .newarray .boolean, 0, 0)) rfl rfl (ly_x_arr (c := n + 65) (k := 4) (by rw [ly_fo_n, hn]; rfl) (by omega) (by decide) (by decide) (by decide)) ?_
  refine nt_rn_s (c' := (130, [(0, .ref (n + 50))], [], (ly_fo n M (ly_io.drop 0)))) (e := (127, .putfield 54, 1130, 0)) rfl rfl (nt_x_put (c := 11) (M' := (ly_fo n M (ly_io.drop 0))) (by rw [ly_fo_n, hn]; show n + 50 < n + 66; omega) (ly_fo_k (i := 50) (q := (11, 0)) (l := ly_io.drop 1) hn rfl).1 rfl rfl) ?_
  exact nt_rn_rv (e := (130, .return_, 0, 0)) rfl rfl rfl rfl
end
section
/-! what holds at the law's start -/
def ly_p0 (g : Nat) : Nat := if g < 16 then [50, 52, 54, 55, 62, 60, 61, 63, 51, 59, 53, 56, 57, 58, 64, 65].getD g 0 else g - 16
theorem ly_p0_lt : (List.range 66).all (fun g => Nat.blt (ly_p0 g) 66) = true := by decide +kernel
theorem ly_p0_ij : (List.range 66).all (fun g => (List.range 66).all (fun h => !Nat.beq (ly_p0 g) (ly_p0 h) || Nat.beq g h)) = true := by decide +kernel
theorem ly_io_c : ly_cnt ly_io = 66 := by decide +kernel
theorem ly_io_z : ly_zs ly_io = 6434 := by decide +kernel
theorem ly_io_k : (List.range 66).all (fun g => (match ly_D[g]?, ly_kl ly_io (ly_p0 g) with | some q, some p => Nat.beq q.1 p.1 && (decide (q.2.1 ≤ (p.2 : Int)) && (decide ((p.2 : Int) ≤ q.2.2.1) && Nat.blt p.2 2147483648)) | _, _ => false)) = true := by decide +kernel
theorem ly_io_r : ly_R.all (fun q => sx_lw 0 q.1.2 && (decide (0 ≤ q.1.2.1) && (Nat.blt q.1.1 66 && (Nat.blt 0 q.2 && (Nat.ble q.2 66 && (match ly_rl ly_io (ly_p0 q.1.1) q.1.2.1.toNat with | some b => Nat.beq b (ly_p0 (q.2 - 1)) | none => false)))))) = true := by decide +kernel
theorem ly_io_n : (List.range 4).all (fun k => (match ly_rl ly_io 49 k with | some _ => false | none => true)) = true := by decide +kernel
theorem ly_init {M : nt_M} (hn : nt_n M = 66) (hz : nt_z M = 6434) (fk : ∀ i q, ly_kl ly_io i = some q → nt_k M i = q.1 ∧ nt_l M i = q.2) (fI : ∀ i, i < 66 → ∀ j, nt_I M i j = 0) (fR : ∀ i, i < 66 → ∀ j, nt_R M i j = ly_rl ly_io i j) : ly_B ly_p0 (fun _ => 0) M ∧ ly_S ly_p0 (fun _ => 0) (fun _ => 0) 0 M := by
  have plt : ∀ g, g < 66 → ly_p0 g < 66 := fun g hg => Nat.blt_eq.mp (List.all_eq_true.mp ly_p0_lt g (List.mem_range.mpr hg))
  refine ⟨⟨fun a b ha hb e => ?_, ⟨by rw [hn]; decide, fun g q hq => ?_⟩, fun q hq => ?_, fun q hq => ?_⟩, ⟨plt, rfl, rfl, by omega⟩, ⟨by rw [hn]; decide, by rw [hz]; decide⟩, (fun _ => 0), fun k hk => Or.inl ⟨?_, rfl⟩, fun u hu => ?_⟩
  · have l := List.all_eq_true.mp (List.all_eq_true.mp ly_p0_ij a (List.mem_range.mpr ha)) b (List.mem_range.mpr hb)
    rw [e, Bool.or_eq_true] at l
    rcases l with l | l
    · have h1 : Nat.beq (ly_p0 b) (ly_p0 b) = true := Nat.beq_refl _
      rw [h1] at l
      cases l
    · exact Nat.eq_of_beq_eq_true l
  · have hq0 : ly_D[g]? = some q := hq
    have hg : g < 66 := (List.getElem?_eq_some_iff.mp hq0).1
    have l := List.all_eq_true.mp ly_io_k g (List.mem_range.mpr hg)
    rw [hq0] at l
    cases hk : ly_kl ly_io (ly_p0 g) with
    | none => rw [hk] at l; cases l
    | some p =>
      rw [hk] at l
      dsimp only at l
      rw [Bool.and_eq_true, Bool.and_eq_true, Bool.and_eq_true, decide_eq_true_eq, decide_eq_true_eq] at l
      obtain ⟨l1, l2, l3, l4⟩ := l
      have f := fk _ _ hk
      rw [f.1, f.2, hn]
      refine ⟨plt g hg, (Nat.eq_of_beq_eq_true l1).symm, ⟨l2, l3⟩, Nat.blt_eq.mp l4, fun j => ?_⟩
      rw [fI _ (plt g hg) j]
      exact ly_iv0 _ j
  · have key : ∀ (g j u : Nat), g < 66 → (g < ly_E.2.1.length ∨ 100 ≤ g) ∧ sx_rd (ly_p0, M, (fun _ => 0), nt_ghost) M g (sx_e (fun _ => 0) ((j : Int), [])) = sx_e (fun _ => 0) (0, [(u, 1)]) := by
      intro g j u hg
      refine ⟨Or.inl hg, ?_⟩
      rw [sx_c_e, sx_s_e]
      unfold sx_rd
      dsimp only
      rw [if_neg (by omega), if_neg (by omega), fI _ (plt g hg)]
      rfl
    rcases List.mem_cons.mp hq with rfl | hq
    · exact key 4 9 0 (by decide)
    rcases List.mem_cons.mp hq with rfl | hq
    · exact key 31 6 1 (by decide)
    rcases List.mem_cons.mp hq with rfl | hq
    · exact key 16 4 2 (by decide)
    rcases List.mem_cons.mp hq with rfl | hq
    · exact key 15 0 3 (by decide)
    rcases List.mem_cons.mp hq with rfl | hq
    · exact key 15 1 4 (by decide)
    rcases List.mem_cons.mp hq with rfl | hq
    · exact key 15 2 5 (by decide)
    rcases List.mem_cons.mp hq with rfl | hq
    · exact key 15 3 6 (by decide)
    rcases List.mem_cons.mp hq with rfl | hq
    · exact key 14 9 7 (by decide)
    rcases List.mem_cons.mp hq with rfl | hq
    · exact key 14 221 8 (by decide)
    rcases List.mem_cons.mp hq with rfl | hq
    · exact key 14 433 9 (by decide)
    rcases List.mem_cons.mp hq with rfl | hq
    · exact key 14 645 10 (by decide)
    · rw [List.mem_singleton.mp hq]
      refine ⟨Or.inr (by decide), ?_⟩
      dsimp only
      rw [sx_c_e, sx_c_e]
      unfold sx_rd
      rw [if_pos (by decide)]
      show nt_ghost 0 (fun h j => nt_I M (ly_p0 h) j) 10000 = 1
      refine kr_0g fun t c ht hc hlt => ?_
      rw [fI (ly_p0 3) (plt 3 (by decide)) t] at hlt
      have : (c : Int) < 0 := hlt
      omega
  · have l := List.all_eq_true.mp ly_io_r q hq
    rw [Bool.and_eq_true, Bool.and_eq_true, Bool.and_eq_true, Bool.and_eq_true, Bool.and_eq_true, decide_eq_true_eq] at l
    obtain ⟨l1, l2, l3, l4, l5, l6⟩ := l
    have l3 := Nat.blt_eq.mp l3
    have l4 := Nat.blt_eq.mp l4
    have l5 := Nat.le_of_ble_eq_true l5
    rw [ly_lw0 l1]
    refine ⟨⟨l3, l5⟩, l2, ?_⟩
    rw [fR _ (plt _ l3)]
    cases hr : ly_rl ly_io (ly_p0 q.1.1) q.1.2.1.toNat with
    | none => rw [hr] at l6; cases l6
    | some b =>
      rw [hr] at l6
      unfold sx_rq
      rw [if_neg (by omega), Nat.eq_of_beq_eq_true l6]
  · show nt_R M 49 k = none
    rw [fR 49 (by decide)]
    have l := List.all_eq_true.mp ly_io_n k (List.mem_range.mpr hk)
    cases hr : ly_rl ly_io 49 k with
    | none => rfl
    | some b => rw [hr] at l; cases l
  · omega
theorem ly_init2 : ∃ M, M = ly_fo 0 nt_M0 ly_io ∧ ly_B ly_p0 (fun _ => 0) M ∧ ly_S ly_p0 (fun _ => 0) (fun _ => 0) 0 M := by
  refine ⟨_, rfl, ?_⟩
  obtain ⟨M, hM⟩ : ∃ M, M = ly_fo 0 nt_M0 ly_io := ⟨_, rfl⟩
  rw [← hM]
  have h0 : nt_n nt_M0 = 0 := rfl
  refine ly_init (by rw [hM, ly_fo_n, ly_io_c]; rfl) (by rw [hM, ly_fo_z, ly_io_z]; rfl) (fun i q h => ?_) (fun i hi j => ?_) (fun i hi j => ?_)
  · have := ly_fo_k (n := 0) (M := nt_M0) h0 h
    rw [Nat.zero_add, ← hM] at this
    exact this
  · have := ly_fo_I (n := 0) (M := nt_M0) (i := i) h0 ly_io (by rw [ly_io_c]; exact hi) j
    rw [Nat.zero_add, ← hM] at this
    exact this
  · have := ly_fo_R (n := 0) (M := nt_M0) (i := i) h0 ly_io (by rw [ly_io_c]; exact hi) j
    rw [Nat.zero_add, ← hM] at this
    rw [this]
    cases ly_rl ly_io i j with
    | none => rfl
    | some b => show some (0 + b) = some b; rw [Nat.zero_add]
end
section
/-! calls with so many numbers -/
theorem ly_g0 {X : nt_X} {K : sx_K} {pl : Nat → Nat} {v : Nat → Int} {M : nt_M} {d g dl rv : Nat} {mo : List (Nat × Int × Int)} {rm : List (Nat × Nat)} (hK : sx_KOK X (sx_tbs, sx_gps) K) (hKe : K = (g, dl, ly_D ++ [], (mo, rm), [(2, rv, (0, []))], (ly_C ++ [], ly_R ++ [], (ly_b, []), 11), [(some (0, 0, (0, [(11, 1)])), (ly_C, ly_R, ([(11, -2147483648, 2147483647)], []), 11 + 1))])) (hmo : mo.all (lq_b 66) = true) (hrm : rm.all (fun q => Nat.blt q.1 66 && (!Nat.beq q.1 23 && !Nat.beq q.1 65)) = true) (hd : dl ≤ d) (hB : ly_B pl v M) : ∃ (x : Int32) (M' : nt_M), nt_ev X d g [.ref (pl rv)] M (some (.int x), M') ∧ ly_B pl v M' ∧ ly_fs pl M M' := by
  exact ly_gen (r := v) hK hKe (by decide) hmo hrm hd hB (fun _ _ => rfl) ⟨rfl, trivial⟩ (fun q hq => by cases hq) (ly_ob hB) ly_oc0
theorem ly_g1 {X : nt_X} {K : sx_K} {pl : Nat → Nat} {v : Nat → Int} {M : nt_M} {d g dl rv : Nat} {mo : List (Nat × Int × Int)} {rm : List (Nat × Nat)} (a0 : Int32) (hK : sx_KOK X (sx_tbs, sx_gps) K) (hKe : K = (g, dl, ly_D ++ [], (mo, rm), [(2, rv, (0, [])), (0, 0, (0, [(11, 1)]))], (ly_C ++ [], ly_R ++ [], (ly_b ++ [(11, -2147483648, 2147483647)], []), 12), [(some (0, 0, (0, [(12, 1)])), (ly_C, ly_R, ([(12, -2147483648, 2147483647)], []), 12 + 1))])) (hmo : mo.all (lq_b 66) = true) (hrm : rm.all (fun q => Nat.blt q.1 66 && (!Nat.beq q.1 23 && !Nat.beq q.1 65)) = true) (hd : dl ≤ d) (hB : ly_B pl v M) : ∃ (x : Int32) (M' : nt_M), nt_ev X d g [.ref (pl rv), .int a0] M (some (.int x), M') ∧ ly_B pl v M' ∧ ly_fs pl M M' := by
  obtain ⟨r, hr, h11⟩ : ∃ r : Nat → Int, (∀ s, s < 11 → r s = v s) ∧ r 11 = a0.toInt := ⟨fun s => if s = 11 then a0.toInt else v s, fun s hs => by dsimp only; rw [if_neg (by omega)], rfl⟩
  exact ly_gen (r := r) hK hKe (by decide) hmo hrm hd hB hr ⟨rfl, ⟨a0, rfl, (ly_e1 h11).symm⟩, trivial⟩ (fun q hq => by cases hq) (ly_oba (ly_obr hr (ly_ob hB)) (ly_obI h11)) ly_oc0
theorem ly_g2 {X : nt_X} {K : sx_K} {pl : Nat → Nat} {v : Nat → Int} {M : nt_M} {d g dl rv : Nat} {mo : List (Nat × Int × Int)} {rm : List (Nat × Nat)} (a0 a1 : Int32) (hK : sx_KOK X (sx_tbs, sx_gps) K) (hKe : K = (g, dl, ly_D ++ [], (mo, rm), [(2, rv, (0, [])), (0, 0, (0, [(11, 1)])), (0, 0, (0, [(12, 1)]))], (ly_C ++ [], ly_R ++ [], (ly_b ++ [(11, -2147483648, 2147483647), (12, -2147483648, 2147483647)], []), 13), [(some (0, 0, (0, [(13, 1)])), (ly_C, ly_R, ([(13, -2147483648, 2147483647)], []), 13 + 1))])) (hmo : mo.all (lq_b 66) = true) (hrm : rm.all (fun q => Nat.blt q.1 66 && (!Nat.beq q.1 23 && !Nat.beq q.1 65)) = true) (hd : dl ≤ d) (hB : ly_B pl v M) : ∃ (x : Int32) (M' : nt_M), nt_ev X d g [.ref (pl rv), .int a0, .int a1] M (some (.int x), M') ∧ ly_B pl v M' ∧ ly_fs pl M M' := by
  obtain ⟨r, hr, h11, h12⟩ : ∃ r : Nat → Int, (∀ s, s < 11 → r s = v s) ∧ r 11 = a0.toInt ∧ r 12 = a1.toInt := ⟨fun s => if s = 11 then a0.toInt else if s = 12 then a1.toInt else v s, fun s hs => by dsimp only; rw [if_neg (by omega), if_neg (by omega)], rfl, rfl⟩
  exact ly_gen (r := r) hK hKe (by decide) hmo hrm hd hB hr ⟨rfl, ⟨a0, rfl, (ly_e1 h11).symm⟩, ⟨a1, rfl, (ly_e1 h12).symm⟩, trivial⟩ (fun q hq => by cases hq) (ly_oba (ly_obr hr (ly_ob hB)) (ly_oba (ly_obI h11) (ly_obI h12))) ly_oc0
theorem ly_g0W {X : nt_X} {K : sx_K} {pl : Nat → Nat} {v : Nat → Int} {M : nt_M} {d g dl rv : Nat} {mo : List (Nat × Int × Int)} {rm : List (Nat × Nat)} (hK : sx_KOK X (sx_tbs, sx_gps) K) (hKe : K = (g, dl, ly_D ++ [], (mo, rm), [(2, rv, (0, []))], (ly_C ++ [], ly_R ++ [], (ly_b, []), 11), [(some (0, 0, (0, [(11, 1)])), (ly_C, ly_R, ([(11, -2147483648, 2147483647)], []), 11 + 1))])) (hmo : mo.all (fun q => Nat.blt q.1 66) = true) (hrm : rm.all (fun q => Nat.blt q.1 66 && (!Nat.beq q.1 23 && !Nat.beq q.1 65)) = true) (hd : dl ≤ d) (hB : ly_B pl v M) : ∃ (x : Int32) (M' : nt_M), nt_ev X d g [.ref (pl rv)] M (some (.int x), M') ∧ ly_B pl v M' ∧ ly_fr 66 pl M M' := by
  exact ly_genW (r := v) hK hKe (by decide) hmo hrm hd hB (fun _ _ => rfl) ⟨rfl, trivial⟩ (fun q hq => by cases hq) (ly_ob hB) ly_oc0
theorem ly_g1W {X : nt_X} {K : sx_K} {pl : Nat → Nat} {v : Nat → Int} {M : nt_M} {d g dl rv : Nat} {mo : List (Nat × Int × Int)} {rm : List (Nat × Nat)} (a0 : Int32) (hK : sx_KOK X (sx_tbs, sx_gps) K) (hKe : K = (g, dl, ly_D ++ [], (mo, rm), [(2, rv, (0, [])), (0, 0, (0, [(11, 1)]))], (ly_C ++ [], ly_R ++ [], (ly_b ++ [(11, -2147483648, 2147483647)], []), 12), [(some (0, 0, (0, [(12, 1)])), (ly_C, ly_R, ([(12, -2147483648, 2147483647)], []), 12 + 1))])) (hmo : mo.all (fun q => Nat.blt q.1 66) = true) (hrm : rm.all (fun q => Nat.blt q.1 66 && (!Nat.beq q.1 23 && !Nat.beq q.1 65)) = true) (hd : dl ≤ d) (hB : ly_B pl v M) : ∃ (x : Int32) (M' : nt_M), nt_ev X d g [.ref (pl rv), .int a0] M (some (.int x), M') ∧ ly_B pl v M' ∧ ly_fr 66 pl M M' := by
  obtain ⟨r, hr, h11⟩ : ∃ r : Nat → Int, (∀ s, s < 11 → r s = v s) ∧ r 11 = a0.toInt := ⟨fun s => if s = 11 then a0.toInt else v s, fun s hs => by dsimp only; rw [if_neg (by omega)], rfl⟩
  exact ly_genW (r := r) hK hKe (by decide) hmo hrm hd hB hr ⟨rfl, ⟨a0, rfl, (ly_e1 h11).symm⟩, trivial⟩ (fun q hq => by cases hq) (ly_oba (ly_obr hr (ly_ob hB)) (ly_obI h11)) ly_oc0
theorem ly_g5W {X : nt_X} {K : sx_K} {pl : Nat → Nat} {v : Nat → Int} {M : nt_M} {d g dl rv : Nat} {mo : List (Nat × Int × Int)} {rm : List (Nat × Nat)} (a0 a1 a2 a3 a4 : Int32) (hK : sx_KOK X (sx_tbs, sx_gps) K) (hKe : K = (g, dl, ly_D ++ [], (mo, rm), [(2, rv, (0, [])), (0, 0, (0, [(11, 1)])), (0, 0, (0, [(12, 1)])), (0, 0, (0, [(13, 1)])), (0, 0, (0, [(14, 1)])), (0, 0, (0, [(15, 1)]))], (ly_C ++ [], ly_R ++ [], (ly_b ++ [(11, -2147483648, 2147483647), (12, -2147483648, 2147483647), (13, -2147483648, 2147483647), (14, -2147483648, 2147483647), (15, -2147483648, 2147483647)], []), 16), [(some (0, 0, (0, [(16, 1)])), (ly_C, ly_R, ([(16, -2147483648, 2147483647)], []), 16 + 1))])) (hmo : mo.all (fun q => Nat.blt q.1 66) = true) (hrm : rm.all (fun q => Nat.blt q.1 66 && (!Nat.beq q.1 23 && !Nat.beq q.1 65)) = true) (hd : dl ≤ d) (hB : ly_B pl v M) : ∃ (x : Int32) (M' : nt_M), nt_ev X d g [.ref (pl rv), .int a0, .int a1, .int a2, .int a3, .int a4] M (some (.int x), M') ∧ ly_B pl v M' ∧ ly_fr 66 pl M M' := by
  obtain ⟨r, hr, h11, h12, h13, h14, h15⟩ : ∃ r : Nat → Int, (∀ s, s < 11 → r s = v s) ∧ r 11 = a0.toInt ∧ r 12 = a1.toInt ∧ r 13 = a2.toInt ∧ r 14 = a3.toInt ∧ r 15 = a4.toInt := ⟨fun s => if s = 11 then a0.toInt else if s = 12 then a1.toInt else if s = 13 then a2.toInt else if s = 14 then a3.toInt else if s = 15 then a4.toInt else v s, fun s hs => by dsimp only; rw [if_neg (by omega), if_neg (by omega), if_neg (by omega), if_neg (by omega), if_neg (by omega)], rfl, rfl, rfl, rfl, rfl⟩
  exact ly_genW (r := r) hK hKe (by decide) hmo hrm hd hB hr ⟨rfl, ⟨a0, rfl, (ly_e1 h11).symm⟩, ⟨a1, rfl, (ly_e1 h12).symm⟩, ⟨a2, rfl, (ly_e1 h13).symm⟩, ⟨a3, rfl, (ly_e1 h14).symm⟩, ⟨a4, rfl, (ly_e1 h15).symm⟩, trivial⟩ (fun q hq => by cases hq) (ly_oba (ly_obr hr (ly_ob hB)) (ly_oba (ly_obI h11) (ly_oba (ly_obI h12) (ly_oba (ly_obI h13) (ly_oba (ly_obI h14) (ly_obI h15)))))) ly_oc0
theorem ly_days_C {X : nt_X} {pl : Nat → Nat} {v mk xi : Nat → Int} {M : nt_M} {d : Nat} (a b0 : Int32) (hd : 9 ≤ d) (hB : ly_B pl v M) (hS : ly_S pl mk xi (v 2) M) : ∃ (x : Int32) (M' : nt_M), nt_ev X d 110 [.ref (pl 16), .int a, .int b0] M (some (.int x), M') ∧ ly_B pl v M' ∧ ly_fs pl M M' := by
  have la := a.le_toInt
  have lb := a.toInt_lt
  have hv2 := ly_ob hB (2, 0, 6) (List.mem_of_getElem? (i := 2) rfl)
  dsimp only at hv2
  by_cases c1 : a.toInt = -1
  · obtain ⟨r, hr, h11⟩ : ∃ r : Nat → Int, (∀ s, s < 11 → r s = v s) ∧ r 11 = b0.toInt := ⟨fun s => if s = 11 then b0.toInt else v s, fun s hs => by dsimp only; rw [if_neg (by omega)], rfl⟩
    exact ly_gen (r := r) (ec := []) (ko_w_n_daysN X) rfl (by decide) (by decide +kernel) (by decide +kernel) (Nat.le_trans (by decide) hd) hB hr ⟨rfl, ⟨a, rfl, by rw [sx_c_e]; exact c1⟩, ⟨b0, rfl, (ly_e1 h11).symm⟩, trivial⟩ (fun q hq => by cases hq) (ly_oba (ly_obr hr (ly_ob hB)) (ly_obI h11)) ly_oc0
  by_cases c2 : a.toInt < -1
  · obtain ⟨r, hr, h11, h12⟩ : ∃ r : Nat → Int, (∀ s, s < 11 → r s = v s) ∧ r 11 = a.toInt ∧ r 12 = b0.toInt := ⟨fun s => if s = 11 then a.toInt else if s = 12 then b0.toInt else v s, fun s hs => by dsimp only; rw [if_neg (by omega), if_neg (by omega)], rfl, rfl⟩
    exact ly_gen (r := r) (ec := []) (ko_w_n_daysL X) rfl (by decide) (by decide +kernel) (by decide +kernel) (Nat.le_trans (by decide) hd) hB hr ⟨rfl, ⟨a, rfl, (ly_e1 h11).symm⟩, ⟨b0, rfl, (ly_e1 h12).symm⟩, trivial⟩ (fun q hq => by cases hq) (ly_oba (ly_obr hr (ly_ob hB)) (ly_oba (ly_ob1 (by omega)) (ly_obI h12))) ly_oc0
  by_cases c3 : v 2 ≤ a.toInt
  · obtain ⟨r, hr, h11, h12⟩ : ∃ r : Nat → Int, (∀ s, s < 11 → r s = v s) ∧ r 11 = a.toInt ∧ r 12 = b0.toInt := ⟨fun s => if s = 11 then a.toInt else if s = 12 then b0.toInt else v s, fun s hs => by dsimp only; rw [if_neg (by omega), if_neg (by omega)], rfl, rfl⟩
    exact ly_gen (r := r) (ec := []) (ko_w_n_daysH X) rfl (by decide) (by decide +kernel) (by decide +kernel) (Nat.le_trans (by decide) hd) hB hr ⟨rfl, ⟨a, rfl, (ly_e1 h11).symm⟩, ⟨b0, rfl, (ly_e1 h12).symm⟩, trivial⟩ (fun q hq => by cases hq) (ly_oba (ly_obr hr (ly_ob hB)) (ly_oba (ly_obI h11) (ly_obI h12))) (fun q hq => by
      rw [List.mem_singleton.mp hq]
      show (0 : Int) ≤ 0 + (-1 * r 2 + (1 * r 11 + 0))
      rw [hr 2 (by omega)]
      omega)
  · obtain ⟨r, hr, h11, h12⟩ : ∃ r : Nat → Int, (∀ s, s < 11 → r s = v s) ∧ r 11 = a.toInt ∧ r 12 = b0.toInt := ⟨fun s => if s = 11 then a.toInt else if s = 12 then b0.toInt else v s, fun s hs => by dsimp only; rw [if_neg (by omega), if_neg (by omega)], rfl, rfl⟩
    exact ly_genR (r := r) (ko_w_n_daysR X) rfl (by decide) (by decide +kernel) (by decide +kernel) (Nat.le_trans (by decide) hd) hB hS hr (by omega) (by omega) (fun b => ⟨by show Value.ref (pl 16) = .ref (ly_pl pl b 16); rw [ly_pl1 (by decide)], ⟨a, rfl, (ly_e1 h11).symm⟩, ⟨b0, rfl, (ly_e1 h12).symm⟩, trivial⟩) (ly_oba (ly_obr hr (ly_ob hB)) (ly_oba (ly_ob1 (by omega)) (ly_obI h12))) (fun q hq => by
      rw [List.mem_singleton.mp hq]
      show (0 : Int) ≤ -1 + (1 * r 2 + (-1 * r 11 + 0))
      rw [hr 2 (by omega)]
      omega)
theorem ly_days_R {X : nt_X} {pl : Nat → Nat} {v : Nat → Int} {M : nt_M} {d : Nat} (a b0 : Int32) (hd : 9 ≤ d) (hB : ly_B pl v M) : ∃ (x : Int32) (M' : nt_M), nt_ev X d 186 [.ref (pl 0), .int a, .int b0] M (some (.int x), M') ∧ ly_B pl v M' ∧ ly_fs pl M M' := by
  have la := a.le_toInt
  have lb := a.toInt_lt
  have hv2 := ly_ob hB (2, 0, 6) (List.mem_of_getElem? (i := 2) rfl)
  dsimp only at hv2
  have g0 := hB.2.1.2 0 _ (show ly_E.2.1[0]? = some (11, 0, 0, 9) from rfl)
  have hR : 0 ≤ (nt_I M (pl 0) 2).toInt ∧ (nt_I M (pl 0) 2).toInt ≤ 6 := g0.2.2.2.2 2
  obtain ⟨R, eR⟩ : ∃ R, (nt_I M (pl 0) 2).toInt = R := ⟨_, rfl⟩
  rw [eR] at hR
  by_cases c1 : a.toInt = -1
  · obtain ⟨r, hr, h11⟩ : ∃ r : Nat → Int, (∀ s, s < 11 → r s = v s) ∧ r 11 = b0.toInt := ⟨fun s => if s = 11 then b0.toInt else v s, fun s hs => by dsimp only; rw [if_neg (by omega)], rfl⟩
    exact ly_gen (r := r) (ec := []) (ko_w_daysN X) rfl (by decide) (by decide +kernel) (by decide +kernel) (Nat.le_trans (by decide) hd) hB hr ⟨rfl, ⟨a, rfl, by rw [sx_c_e]; exact c1⟩, ⟨b0, rfl, (ly_e1 h11).symm⟩, trivial⟩ (fun q hq => by cases hq) (ly_oba (ly_obr hr (ly_ob hB)) (ly_obI h11)) ly_oc0
  by_cases c2 : a.toInt < -1
  · obtain ⟨r, hr, h11, h12⟩ : ∃ r : Nat → Int, (∀ s, s < 11 → r s = v s) ∧ r 11 = a.toInt ∧ r 12 = b0.toInt := ⟨fun s => if s = 11 then a.toInt else if s = 12 then b0.toInt else v s, fun s hs => by dsimp only; rw [if_neg (by omega), if_neg (by omega)], rfl, rfl⟩
    exact ly_gen (r := r) (ec := []) (ko_w_daysL X) rfl (by decide) (by decide +kernel) (by decide +kernel) (Nat.le_trans (by decide) hd) hB hr ⟨rfl, ⟨a, rfl, (ly_e1 h11).symm⟩, ⟨b0, rfl, (ly_e1 h12).symm⟩, trivial⟩ (fun q hq => by cases hq) (ly_oba (ly_obr hr (ly_ob hB)) (ly_oba (ly_ob1 (by omega)) (ly_obI h12))) ly_oc0
  by_cases c3 : R ≤ a.toInt
  · obtain ⟨r, hr, h11, h12, h13⟩ : ∃ r : Nat → Int, (∀ s, s < 11 → r s = v s) ∧ r 11 = R ∧ r 12 = a.toInt ∧ r 13 = b0.toInt := ⟨fun s => if s = 11 then R else if s = 12 then a.toInt else if s = 13 then b0.toInt else v s, fun s hs => by dsimp only; rw [if_neg (by omega), if_neg (by omega), if_neg (by omega)], rfl, rfl, rfl⟩
    exact ly_gen (r := r) (ko_w_daysH X) rfl (by decide) (by decide +kernel) (by decide +kernel) (Nat.le_trans (by decide) hd) hB hr ⟨rfl, ⟨a, rfl, (ly_e1 h12).symm⟩, ⟨b0, rfl, (ly_e1 h13).symm⟩, trivial⟩ (fun q hq => by
        rw [List.mem_singleton.mp hq]
        refine ⟨Or.inl (by show 0 < 66; decide), ?_⟩
        dsimp only
        rw [sx_c_e, sx_s_e, h11, ← eR]
        unfold sx_rd
        rw [if_neg (by decide), if_neg (by decide)]
        rfl) (ly_oba (ly_obr hr (ly_ob hB)) (ly_oba (ly_ob1 (by omega)) (ly_oba (ly_obI h12) (ly_obI h13)))) (fun q hq => by
      rw [List.mem_singleton.mp hq]
      show (0 : Int) ≤ 0 + (-1 * r 11 + (1 * r 12 + 0))
      omega)
  · obtain ⟨r, hr, h11, h12, h13⟩ : ∃ r : Nat → Int, (∀ s, s < 11 → r s = v s) ∧ r 11 = R ∧ r 12 = a.toInt ∧ r 13 = b0.toInt := ⟨fun s => if s = 11 then R else if s = 12 then a.toInt else if s = 13 then b0.toInt else v s, fun s hs => by dsimp only; rw [if_neg (by omega), if_neg (by omega), if_neg (by omega)], rfl, rfl, rfl⟩
    exact ly_gen (r := r) (ko_w_daysR X) rfl (by decide) (by decide +kernel) (by decide +kernel) (Nat.le_trans (by decide) hd) hB hr ⟨rfl, ⟨a, rfl, (ly_e1 h12).symm⟩, ⟨b0, rfl, (ly_e1 h13).symm⟩, trivial⟩ (fun q hq => by
        rw [List.mem_singleton.mp hq]
        refine ⟨Or.inl (by show 0 < 66; decide), ?_⟩
        dsimp only
        rw [sx_c_e, sx_s_e, h11, ← eR]
        unfold sx_rd
        rw [if_neg (by decide), if_neg (by decide)]
        rfl) (ly_oba (ly_obr hr (ly_ob hB)) (ly_oba (ly_ob1 (by omega)) (ly_oba (ly_ob1 (by omega)) (ly_obI h13)))) (fun q hq => by
      rw [List.mem_singleton.mp hq]
      show (0 : Int) ≤ -1 + (1 * r 11 + (-1 * r 12 + 0))
      omega)
theorem ly_ahead_C {X : nt_X} {pl : Nat → Nat} {v mk xi : Nat → Int} {M : nt_M} {d : Nat} (a b0 b1 : Int32) (hd : 9 ≤ d) (hB : ly_B pl v M) (hS : ly_S pl mk xi (v 2) M) : ∃ (x : Int32) (M' : nt_M), nt_ev X d 123 [.ref (pl 16), .int a, .int b0, .int b1] M (some (.int x), M') ∧ ly_B pl v M' ∧ ly_fs pl M M' := by
  have la := a.le_toInt
  have lb := a.toInt_lt
  have hv2 := ly_ob hB (2, 0, 6) (List.mem_of_getElem? (i := 2) rfl)
  dsimp only at hv2
  by_cases c1 : a.toInt = -1
  · obtain ⟨r, hr, h11, h12⟩ : ∃ r : Nat → Int, (∀ s, s < 11 → r s = v s) ∧ r 11 = b0.toInt ∧ r 12 = b1.toInt := ⟨fun s => if s = 11 then b0.toInt else if s = 12 then b1.toInt else v s, fun s hs => by dsimp only; rw [if_neg (by omega), if_neg (by omega)], rfl, rfl⟩
    exact ly_gen (r := r) (ec := []) (ko_w_n_aheadN X) rfl (by decide) (by decide +kernel) (by decide +kernel) (Nat.le_trans (by decide) hd) hB hr ⟨rfl, ⟨a, rfl, by rw [sx_c_e]; exact c1⟩, ⟨b0, rfl, (ly_e1 h11).symm⟩, ⟨b1, rfl, (ly_e1 h12).symm⟩, trivial⟩ (fun q hq => by cases hq) (ly_oba (ly_obr hr (ly_ob hB)) (ly_oba (ly_obI h11) (ly_obI h12))) ly_oc0
  by_cases c2 : a.toInt < -1
  · obtain ⟨r, hr, h11, h12, h13⟩ : ∃ r : Nat → Int, (∀ s, s < 11 → r s = v s) ∧ r 11 = a.toInt ∧ r 12 = b0.toInt ∧ r 13 = b1.toInt := ⟨fun s => if s = 11 then a.toInt else if s = 12 then b0.toInt else if s = 13 then b1.toInt else v s, fun s hs => by dsimp only; rw [if_neg (by omega), if_neg (by omega), if_neg (by omega)], rfl, rfl, rfl⟩
    exact ly_gen (r := r) (ec := []) (ko_w_n_aheadL X) rfl (by decide) (by decide +kernel) (by decide +kernel) (Nat.le_trans (by decide) hd) hB hr ⟨rfl, ⟨a, rfl, (ly_e1 h11).symm⟩, ⟨b0, rfl, (ly_e1 h12).symm⟩, ⟨b1, rfl, (ly_e1 h13).symm⟩, trivial⟩ (fun q hq => by cases hq) (ly_oba (ly_obr hr (ly_ob hB)) (ly_oba (ly_ob1 (by omega)) (ly_oba (ly_obI h12) (ly_obI h13)))) ly_oc0
  by_cases c3 : v 2 ≤ a.toInt
  · obtain ⟨r, hr, h11, h12, h13⟩ : ∃ r : Nat → Int, (∀ s, s < 11 → r s = v s) ∧ r 11 = a.toInt ∧ r 12 = b0.toInt ∧ r 13 = b1.toInt := ⟨fun s => if s = 11 then a.toInt else if s = 12 then b0.toInt else if s = 13 then b1.toInt else v s, fun s hs => by dsimp only; rw [if_neg (by omega), if_neg (by omega), if_neg (by omega)], rfl, rfl, rfl⟩
    exact ly_gen (r := r) (ec := []) (ko_w_n_aheadH X) rfl (by decide) (by decide +kernel) (by decide +kernel) (Nat.le_trans (by decide) hd) hB hr ⟨rfl, ⟨a, rfl, (ly_e1 h11).symm⟩, ⟨b0, rfl, (ly_e1 h12).symm⟩, ⟨b1, rfl, (ly_e1 h13).symm⟩, trivial⟩ (fun q hq => by cases hq) (ly_oba (ly_obr hr (ly_ob hB)) (ly_oba (ly_obI h11) (ly_oba (ly_obI h12) (ly_obI h13)))) (fun q hq => by
      rw [List.mem_singleton.mp hq]
      show (0 : Int) ≤ 0 + (-1 * r 2 + (1 * r 11 + 0))
      rw [hr 2 (by omega)]
      omega)
  · obtain ⟨r, hr, h11, h12, h13⟩ : ∃ r : Nat → Int, (∀ s, s < 11 → r s = v s) ∧ r 11 = a.toInt ∧ r 12 = b0.toInt ∧ r 13 = b1.toInt := ⟨fun s => if s = 11 then a.toInt else if s = 12 then b0.toInt else if s = 13 then b1.toInt else v s, fun s hs => by dsimp only; rw [if_neg (by omega), if_neg (by omega), if_neg (by omega)], rfl, rfl, rfl⟩
    exact ly_genR (r := r) (ko_w_n_aheadR X) rfl (by decide) (by decide +kernel) (by decide +kernel) (Nat.le_trans (by decide) hd) hB hS hr (by omega) (by omega) (fun b => ⟨by show Value.ref (pl 16) = .ref (ly_pl pl b 16); rw [ly_pl1 (by decide)], ⟨a, rfl, (ly_e1 h11).symm⟩, ⟨b0, rfl, (ly_e1 h12).symm⟩, ⟨b1, rfl, (ly_e1 h13).symm⟩, trivial⟩) (ly_oba (ly_obr hr (ly_ob hB)) (ly_oba (ly_ob1 (by omega)) (ly_oba (ly_obI h12) (ly_obI h13)))) (fun q hq => by
      rw [List.mem_singleton.mp hq]
      show (0 : Int) ≤ -1 + (1 * r 2 + (-1 * r 11 + 0))
      rw [hr 2 (by omega)]
      omega)
theorem ly_ahead_R {X : nt_X} {pl : Nat → Nat} {v : Nat → Int} {M : nt_M} {d : Nat} (a b0 b1 : Int32) (hd : 9 ≤ d) (hB : ly_B pl v M) : ∃ (x : Int32) (M' : nt_M), nt_ev X d 226 [.ref (pl 0), .int a, .int b0, .int b1] M (some (.int x), M') ∧ ly_B pl v M' ∧ ly_fs pl M M' := by
  have la := a.le_toInt
  have lb := a.toInt_lt
  have hv2 := ly_ob hB (2, 0, 6) (List.mem_of_getElem? (i := 2) rfl)
  dsimp only at hv2
  have g0 := hB.2.1.2 0 _ (show ly_E.2.1[0]? = some (11, 0, 0, 9) from rfl)
  have hR : 0 ≤ (nt_I M (pl 0) 2).toInt ∧ (nt_I M (pl 0) 2).toInt ≤ 6 := g0.2.2.2.2 2
  obtain ⟨R, eR⟩ : ∃ R, (nt_I M (pl 0) 2).toInt = R := ⟨_, rfl⟩
  rw [eR] at hR
  by_cases c1 : a.toInt = -1
  · obtain ⟨r, hr, h11, h12⟩ : ∃ r : Nat → Int, (∀ s, s < 11 → r s = v s) ∧ r 11 = b0.toInt ∧ r 12 = b1.toInt := ⟨fun s => if s = 11 then b0.toInt else if s = 12 then b1.toInt else v s, fun s hs => by dsimp only; rw [if_neg (by omega), if_neg (by omega)], rfl, rfl⟩
    exact ly_gen (r := r) (ec := []) (ko_w_aheadN X) rfl (by decide) (by decide +kernel) (by decide +kernel) (Nat.le_trans (by decide) hd) hB hr ⟨rfl, ⟨a, rfl, by rw [sx_c_e]; exact c1⟩, ⟨b0, rfl, (ly_e1 h11).symm⟩, ⟨b1, rfl, (ly_e1 h12).symm⟩, trivial⟩ (fun q hq => by cases hq) (ly_oba (ly_obr hr (ly_ob hB)) (ly_oba (ly_obI h11) (ly_obI h12))) ly_oc0
  by_cases c2 : a.toInt < -1
  · obtain ⟨r, hr, h11, h12, h13⟩ : ∃ r : Nat → Int, (∀ s, s < 11 → r s = v s) ∧ r 11 = a.toInt ∧ r 12 = b0.toInt ∧ r 13 = b1.toInt := ⟨fun s => if s = 11 then a.toInt else if s = 12 then b0.toInt else if s = 13 then b1.toInt else v s, fun s hs => by dsimp only; rw [if_neg (by omega), if_neg (by omega), if_neg (by omega)], rfl, rfl, rfl⟩
    exact ly_gen (r := r) (ec := []) (ko_w_aheadL X) rfl (by decide) (by decide +kernel) (by decide +kernel) (Nat.le_trans (by decide) hd) hB hr ⟨rfl, ⟨a, rfl, (ly_e1 h11).symm⟩, ⟨b0, rfl, (ly_e1 h12).symm⟩, ⟨b1, rfl, (ly_e1 h13).symm⟩, trivial⟩ (fun q hq => by cases hq) (ly_oba (ly_obr hr (ly_ob hB)) (ly_oba (ly_ob1 (by omega)) (ly_oba (ly_obI h12) (ly_obI h13)))) ly_oc0
  by_cases c3 : R ≤ a.toInt
  · obtain ⟨r, hr, h11, h12, h13, h14⟩ : ∃ r : Nat → Int, (∀ s, s < 11 → r s = v s) ∧ r 11 = R ∧ r 12 = a.toInt ∧ r 13 = b0.toInt ∧ r 14 = b1.toInt := ⟨fun s => if s = 11 then R else if s = 12 then a.toInt else if s = 13 then b0.toInt else if s = 14 then b1.toInt else v s, fun s hs => by dsimp only; rw [if_neg (by omega), if_neg (by omega), if_neg (by omega), if_neg (by omega)], rfl, rfl, rfl, rfl⟩
    exact ly_gen (r := r) (ko_w_aheadH X) rfl (by decide) (by decide +kernel) (by decide +kernel) (Nat.le_trans (by decide) hd) hB hr ⟨rfl, ⟨a, rfl, (ly_e1 h12).symm⟩, ⟨b0, rfl, (ly_e1 h13).symm⟩, ⟨b1, rfl, (ly_e1 h14).symm⟩, trivial⟩ (fun q hq => by
        rw [List.mem_singleton.mp hq]
        refine ⟨Or.inl (by show 0 < 66; decide), ?_⟩
        dsimp only
        rw [sx_c_e, sx_s_e, h11, ← eR]
        unfold sx_rd
        rw [if_neg (by decide), if_neg (by decide)]
        rfl) (ly_oba (ly_obr hr (ly_ob hB)) (ly_oba (ly_ob1 (by omega)) (ly_oba (ly_obI h12) (ly_oba (ly_obI h13) (ly_obI h14))))) (fun q hq => by
      rw [List.mem_singleton.mp hq]
      show (0 : Int) ≤ 0 + (-1 * r 11 + (1 * r 12 + 0))
      omega)
  · obtain ⟨r, hr, h11, h12, h13, h14⟩ : ∃ r : Nat → Int, (∀ s, s < 11 → r s = v s) ∧ r 11 = R ∧ r 12 = a.toInt ∧ r 13 = b0.toInt ∧ r 14 = b1.toInt := ⟨fun s => if s = 11 then R else if s = 12 then a.toInt else if s = 13 then b0.toInt else if s = 14 then b1.toInt else v s, fun s hs => by dsimp only; rw [if_neg (by omega), if_neg (by omega), if_neg (by omega), if_neg (by omega)], rfl, rfl, rfl, rfl⟩
    exact ly_gen (r := r) (ko_w_aheadR X) rfl (by decide) (by decide +kernel) (by decide +kernel) (Nat.le_trans (by decide) hd) hB hr ⟨rfl, ⟨a, rfl, (ly_e1 h12).symm⟩, ⟨b0, rfl, (ly_e1 h13).symm⟩, ⟨b1, rfl, (ly_e1 h14).symm⟩, trivial⟩ (fun q hq => by
        rw [List.mem_singleton.mp hq]
        refine ⟨Or.inl (by show 0 < 66; decide), ?_⟩
        dsimp only
        rw [sx_c_e, sx_s_e, h11, ← eR]
        unfold sx_rd
        rw [if_neg (by decide), if_neg (by decide)]
        rfl) (ly_oba (ly_obr hr (ly_ob hB)) (ly_oba (ly_ob1 (by omega)) (ly_oba (ly_ob1 (by omega)) (ly_oba (ly_obI h13) (ly_obI h14))))) (fun q hq => by
      rw [List.mem_singleton.mp hq]
      show (0 : Int) ≤ -1 + (1 * r 11 + (-1 * r 12 + 0))
      omega)
theorem ly_years_C {X : nt_X} {pl : Nat → Nat} {v mk xi : Nat → Int} {M : nt_M} {d : Nat} (a b0 b1 b2 b3 : Int32) (hd : 9 ≤ d) (hB : ly_B pl v M) (hS : ly_S pl mk xi (v 2) M) : ∃ (x : Int32) (M' : nt_M), nt_ev X d 125 [.ref (pl 16), .int a, .int b0, .int b1, .int b2, .int b3] M (some (.int x), M') ∧ ly_B pl v M' ∧ ly_fs pl M M' := by
  have la := a.le_toInt
  have lb := a.toInt_lt
  have hv2 := ly_ob hB (2, 0, 6) (List.mem_of_getElem? (i := 2) rfl)
  dsimp only at hv2
  by_cases c1 : a.toInt = -1
  · obtain ⟨r, hr, h11, h12, h13, h14⟩ : ∃ r : Nat → Int, (∀ s, s < 11 → r s = v s) ∧ r 11 = b0.toInt ∧ r 12 = b1.toInt ∧ r 13 = b2.toInt ∧ r 14 = b3.toInt := ⟨fun s => if s = 11 then b0.toInt else if s = 12 then b1.toInt else if s = 13 then b2.toInt else if s = 14 then b3.toInt else v s, fun s hs => by dsimp only; rw [if_neg (by omega), if_neg (by omega), if_neg (by omega), if_neg (by omega)], rfl, rfl, rfl, rfl⟩
    exact ly_gen (r := r) (ec := []) (ko_w_n_yearsN X) rfl (by decide) (by decide +kernel) (by decide +kernel) (Nat.le_trans (by decide) hd) hB hr ⟨rfl, ⟨a, rfl, by rw [sx_c_e]; exact c1⟩, ⟨b0, rfl, (ly_e1 h11).symm⟩, ⟨b1, rfl, (ly_e1 h12).symm⟩, ⟨b2, rfl, (ly_e1 h13).symm⟩, ⟨b3, rfl, (ly_e1 h14).symm⟩, trivial⟩ (fun q hq => by cases hq) (ly_oba (ly_obr hr (ly_ob hB)) (ly_oba (ly_obI h11) (ly_oba (ly_obI h12) (ly_oba (ly_obI h13) (ly_obI h14))))) ly_oc0
  by_cases c2 : a.toInt < -1
  · obtain ⟨r, hr, h11, h12, h13, h14, h15⟩ : ∃ r : Nat → Int, (∀ s, s < 11 → r s = v s) ∧ r 11 = a.toInt ∧ r 12 = b0.toInt ∧ r 13 = b1.toInt ∧ r 14 = b2.toInt ∧ r 15 = b3.toInt := ⟨fun s => if s = 11 then a.toInt else if s = 12 then b0.toInt else if s = 13 then b1.toInt else if s = 14 then b2.toInt else if s = 15 then b3.toInt else v s, fun s hs => by dsimp only; rw [if_neg (by omega), if_neg (by omega), if_neg (by omega), if_neg (by omega), if_neg (by omega)], rfl, rfl, rfl, rfl, rfl⟩
    exact ly_gen (r := r) (ec := []) (ko_w_n_yearsL X) rfl (by decide) (by decide +kernel) (by decide +kernel) (Nat.le_trans (by decide) hd) hB hr ⟨rfl, ⟨a, rfl, (ly_e1 h11).symm⟩, ⟨b0, rfl, (ly_e1 h12).symm⟩, ⟨b1, rfl, (ly_e1 h13).symm⟩, ⟨b2, rfl, (ly_e1 h14).symm⟩, ⟨b3, rfl, (ly_e1 h15).symm⟩, trivial⟩ (fun q hq => by cases hq) (ly_oba (ly_obr hr (ly_ob hB)) (ly_oba (ly_ob1 (by omega)) (ly_oba (ly_obI h12) (ly_oba (ly_obI h13) (ly_oba (ly_obI h14) (ly_obI h15)))))) ly_oc0
  by_cases c3 : v 2 ≤ a.toInt
  · obtain ⟨r, hr, h11, h12, h13, h14, h15⟩ : ∃ r : Nat → Int, (∀ s, s < 11 → r s = v s) ∧ r 11 = a.toInt ∧ r 12 = b0.toInt ∧ r 13 = b1.toInt ∧ r 14 = b2.toInt ∧ r 15 = b3.toInt := ⟨fun s => if s = 11 then a.toInt else if s = 12 then b0.toInt else if s = 13 then b1.toInt else if s = 14 then b2.toInt else if s = 15 then b3.toInt else v s, fun s hs => by dsimp only; rw [if_neg (by omega), if_neg (by omega), if_neg (by omega), if_neg (by omega), if_neg (by omega)], rfl, rfl, rfl, rfl, rfl⟩
    exact ly_gen (r := r) (ec := []) (ko_w_n_yearsH X) rfl (by decide) (by decide +kernel) (by decide +kernel) (Nat.le_trans (by decide) hd) hB hr ⟨rfl, ⟨a, rfl, (ly_e1 h11).symm⟩, ⟨b0, rfl, (ly_e1 h12).symm⟩, ⟨b1, rfl, (ly_e1 h13).symm⟩, ⟨b2, rfl, (ly_e1 h14).symm⟩, ⟨b3, rfl, (ly_e1 h15).symm⟩, trivial⟩ (fun q hq => by cases hq) (ly_oba (ly_obr hr (ly_ob hB)) (ly_oba (ly_obI h11) (ly_oba (ly_obI h12) (ly_oba (ly_obI h13) (ly_oba (ly_obI h14) (ly_obI h15)))))) (fun q hq => by
      rw [List.mem_singleton.mp hq]
      show (0 : Int) ≤ 0 + (-1 * r 2 + (1 * r 11 + 0))
      rw [hr 2 (by omega)]
      omega)
  · obtain ⟨r, hr, h11, h12, h13, h14, h15⟩ : ∃ r : Nat → Int, (∀ s, s < 11 → r s = v s) ∧ r 11 = a.toInt ∧ r 12 = b0.toInt ∧ r 13 = b1.toInt ∧ r 14 = b2.toInt ∧ r 15 = b3.toInt := ⟨fun s => if s = 11 then a.toInt else if s = 12 then b0.toInt else if s = 13 then b1.toInt else if s = 14 then b2.toInt else if s = 15 then b3.toInt else v s, fun s hs => by dsimp only; rw [if_neg (by omega), if_neg (by omega), if_neg (by omega), if_neg (by omega), if_neg (by omega)], rfl, rfl, rfl, rfl, rfl⟩
    exact ly_genR (r := r) (ko_w_n_yearsR X) rfl (by decide) (by decide +kernel) (by decide +kernel) (Nat.le_trans (by decide) hd) hB hS hr (by omega) (by omega) (fun b => ⟨by show Value.ref (pl 16) = .ref (ly_pl pl b 16); rw [ly_pl1 (by decide)], ⟨a, rfl, (ly_e1 h11).symm⟩, ⟨b0, rfl, (ly_e1 h12).symm⟩, ⟨b1, rfl, (ly_e1 h13).symm⟩, ⟨b2, rfl, (ly_e1 h14).symm⟩, ⟨b3, rfl, (ly_e1 h15).symm⟩, trivial⟩) (ly_oba (ly_obr hr (ly_ob hB)) (ly_oba (ly_ob1 (by omega)) (ly_oba (ly_obI h12) (ly_oba (ly_obI h13) (ly_oba (ly_obI h14) (ly_obI h15)))))) (fun q hq => by
      rw [List.mem_singleton.mp hq]
      show (0 : Int) ≤ -1 + (1 * r 2 + (-1 * r 11 + 0))
      rw [hr 2 (by omega)]
      omega)
theorem ly_years_R {X : nt_X} {pl : Nat → Nat} {v : Nat → Int} {M : nt_M} {d : Nat} (a b0 b1 b2 b3 : Int32) (hd : 9 ≤ d) (hB : ly_B pl v M) : ∃ (x : Int32) (M' : nt_M), nt_ev X d 231 [.ref (pl 0), .int a, .int b0, .int b1, .int b2, .int b3] M (some (.int x), M') ∧ ly_B pl v M' ∧ ly_fs pl M M' := by
  have la := a.le_toInt
  have lb := a.toInt_lt
  have hv2 := ly_ob hB (2, 0, 6) (List.mem_of_getElem? (i := 2) rfl)
  dsimp only at hv2
  have g0 := hB.2.1.2 0 _ (show ly_E.2.1[0]? = some (11, 0, 0, 9) from rfl)
  have hR : 0 ≤ (nt_I M (pl 0) 2).toInt ∧ (nt_I M (pl 0) 2).toInt ≤ 6 := g0.2.2.2.2 2
  obtain ⟨R, eR⟩ : ∃ R, (nt_I M (pl 0) 2).toInt = R := ⟨_, rfl⟩
  rw [eR] at hR
  by_cases c1 : a.toInt = -1
  · obtain ⟨r, hr, h11, h12, h13, h14⟩ : ∃ r : Nat → Int, (∀ s, s < 11 → r s = v s) ∧ r 11 = b0.toInt ∧ r 12 = b1.toInt ∧ r 13 = b2.toInt ∧ r 14 = b3.toInt := ⟨fun s => if s = 11 then b0.toInt else if s = 12 then b1.toInt else if s = 13 then b2.toInt else if s = 14 then b3.toInt else v s, fun s hs => by dsimp only; rw [if_neg (by omega), if_neg (by omega), if_neg (by omega), if_neg (by omega)], rfl, rfl, rfl, rfl⟩
    exact ly_gen (r := r) (ec := []) (ko_w_yearsN X) rfl (by decide) (by decide +kernel) (by decide +kernel) (Nat.le_trans (by decide) hd) hB hr ⟨rfl, ⟨a, rfl, by rw [sx_c_e]; exact c1⟩, ⟨b0, rfl, (ly_e1 h11).symm⟩, ⟨b1, rfl, (ly_e1 h12).symm⟩, ⟨b2, rfl, (ly_e1 h13).symm⟩, ⟨b3, rfl, (ly_e1 h14).symm⟩, trivial⟩ (fun q hq => by cases hq) (ly_oba (ly_obr hr (ly_ob hB)) (ly_oba (ly_obI h11) (ly_oba (ly_obI h12) (ly_oba (ly_obI h13) (ly_obI h14))))) ly_oc0
  by_cases c2 : a.toInt < -1
  · obtain ⟨r, hr, h11, h12, h13, h14, h15⟩ : ∃ r : Nat → Int, (∀ s, s < 11 → r s = v s) ∧ r 11 = a.toInt ∧ r 12 = b0.toInt ∧ r 13 = b1.toInt ∧ r 14 = b2.toInt ∧ r 15 = b3.toInt := ⟨fun s => if s = 11 then a.toInt else if s = 12 then b0.toInt else if s = 13 then b1.toInt else if s = 14 then b2.toInt else if s = 15 then b3.toInt else v s, fun s hs => by dsimp only; rw [if_neg (by omega), if_neg (by omega), if_neg (by omega), if_neg (by omega), if_neg (by omega)], rfl, rfl, rfl, rfl, rfl⟩
    exact ly_gen (r := r) (ec := []) (ko_w_yearsL X) rfl (by decide) (by decide +kernel) (by decide +kernel) (Nat.le_trans (by decide) hd) hB hr ⟨rfl, ⟨a, rfl, (ly_e1 h11).symm⟩, ⟨b0, rfl, (ly_e1 h12).symm⟩, ⟨b1, rfl, (ly_e1 h13).symm⟩, ⟨b2, rfl, (ly_e1 h14).symm⟩, ⟨b3, rfl, (ly_e1 h15).symm⟩, trivial⟩ (fun q hq => by cases hq) (ly_oba (ly_obr hr (ly_ob hB)) (ly_oba (ly_ob1 (by omega)) (ly_oba (ly_obI h12) (ly_oba (ly_obI h13) (ly_oba (ly_obI h14) (ly_obI h15)))))) ly_oc0
  by_cases c3 : R ≤ a.toInt
  · obtain ⟨r, hr, h11, h12, h13, h14, h15, h16⟩ : ∃ r : Nat → Int, (∀ s, s < 11 → r s = v s) ∧ r 11 = R ∧ r 12 = a.toInt ∧ r 13 = b0.toInt ∧ r 14 = b1.toInt ∧ r 15 = b2.toInt ∧ r 16 = b3.toInt := ⟨fun s => if s = 11 then R else if s = 12 then a.toInt else if s = 13 then b0.toInt else if s = 14 then b1.toInt else if s = 15 then b2.toInt else if s = 16 then b3.toInt else v s, fun s hs => by dsimp only; rw [if_neg (by omega), if_neg (by omega), if_neg (by omega), if_neg (by omega), if_neg (by omega), if_neg (by omega)], rfl, rfl, rfl, rfl, rfl, rfl⟩
    exact ly_gen (r := r) (ko_w_yearsH X) rfl (by decide) (by decide +kernel) (by decide +kernel) (Nat.le_trans (by decide) hd) hB hr ⟨rfl, ⟨a, rfl, (ly_e1 h12).symm⟩, ⟨b0, rfl, (ly_e1 h13).symm⟩, ⟨b1, rfl, (ly_e1 h14).symm⟩, ⟨b2, rfl, (ly_e1 h15).symm⟩, ⟨b3, rfl, (ly_e1 h16).symm⟩, trivial⟩ (fun q hq => by
        rw [List.mem_singleton.mp hq]
        refine ⟨Or.inl (by show 0 < 66; decide), ?_⟩
        dsimp only
        rw [sx_c_e, sx_s_e, h11, ← eR]
        unfold sx_rd
        rw [if_neg (by decide), if_neg (by decide)]
        rfl) (ly_oba (ly_obr hr (ly_ob hB)) (ly_oba (ly_ob1 (by omega)) (ly_oba (ly_obI h12) (ly_oba (ly_obI h13) (ly_oba (ly_obI h14) (ly_oba (ly_obI h15) (ly_obI h16))))))) (fun q hq => by
      rw [List.mem_singleton.mp hq]
      show (0 : Int) ≤ 0 + (-1 * r 11 + (1 * r 12 + 0))
      omega)
  · obtain ⟨r, hr, h11, h12, h13, h14, h15, h16⟩ : ∃ r : Nat → Int, (∀ s, s < 11 → r s = v s) ∧ r 11 = R ∧ r 12 = a.toInt ∧ r 13 = b0.toInt ∧ r 14 = b1.toInt ∧ r 15 = b2.toInt ∧ r 16 = b3.toInt := ⟨fun s => if s = 11 then R else if s = 12 then a.toInt else if s = 13 then b0.toInt else if s = 14 then b1.toInt else if s = 15 then b2.toInt else if s = 16 then b3.toInt else v s, fun s hs => by dsimp only; rw [if_neg (by omega), if_neg (by omega), if_neg (by omega), if_neg (by omega), if_neg (by omega), if_neg (by omega)], rfl, rfl, rfl, rfl, rfl, rfl⟩
    exact ly_gen (r := r) (ko_w_yearsR X) rfl (by decide) (by decide +kernel) (by decide +kernel) (Nat.le_trans (by decide) hd) hB hr ⟨rfl, ⟨a, rfl, (ly_e1 h12).symm⟩, ⟨b0, rfl, (ly_e1 h13).symm⟩, ⟨b1, rfl, (ly_e1 h14).symm⟩, ⟨b2, rfl, (ly_e1 h15).symm⟩, ⟨b3, rfl, (ly_e1 h16).symm⟩, trivial⟩ (fun q hq => by
        rw [List.mem_singleton.mp hq]
        refine ⟨Or.inl (by show 0 < 66; decide), ?_⟩
        dsimp only
        rw [sx_c_e, sx_s_e, h11, ← eR]
        unfold sx_rd
        rw [if_neg (by decide), if_neg (by decide)]
        rfl) (ly_oba (ly_obr hr (ly_ob hB)) (ly_oba (ly_ob1 (by omega)) (ly_oba (ly_ob1 (by omega)) (ly_oba (ly_obI h13) (ly_oba (ly_obI h14) (ly_oba (ly_obI h15) (ly_obI h16))))))) (fun q hq => by
      rw [List.mem_singleton.mp hq]
      show (0 : Int) ≤ -1 + (1 * r 11 + (-1 * r 12 + 0))
      omega)
end
section
def kk_w_rread2 : sx_K := (48, 40, ly_D, ([(19, 1, 2), (21, 2, 3), (22, 0, 2147483647)], []), [(2, 21, (0, []))], (ly_C, ly_R, (ly_b, []), 11), [(some (0, 0, (0, [(11, 1)])), (ly_C, ly_R, ([(11, 1, 2147483647)], []), 12)), (some (0, 0, (0, [])), (ly_C ++ [((21, (2, [])), (0, [(11, 1)]))], ly_R, ([(11, 0, 399)], []), 12))])
end
