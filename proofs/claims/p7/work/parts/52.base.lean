/-! the law's world: all regions, and what lies beyond them -/
def ly_E : sx_E := ((sx_tbs, sx_gps), ly_D, [], [], 11)
def ly_B (pl : Nat → Nat) (v : Nat → Int) (M : nt_M) : Prop := sx_ij ly_E pl ∧ sx_hp ly_E pl M ∧ sx_oi ly_E (pl, M, v, nt_ghost) v ly_C M ∧ sx_or ly_E pl v ly_R M
theorem ly_rd {F F' : sx_F} {M : nt_M} {g : Nat} {i : Int} (hp : F.1 = F'.1) (hg : F.2.2.2 = F'.2.2.2) : sx_rd F M g i = sx_rd F' M g i := by
  unfold sx_rd
  rw [hp, hg]
theorem ly_oi {E E' : sx_E} {F F' : sx_F} {r v : Nat → Int} {ic : sx_I} {M : nt_M} {n : Nat} (hE : E.2.1.length ≤ E'.2.1.length) (hp : F.1 = F'.1) (hg : F.2.2.2 = F'.2.2.2) (hr : ∀ s, s < n → v s = r s) (hl : ic.all (fun q => sx_lw n q.1.2 && sx_lw n q.2) = true) (h : sx_oi E F r ic M) : sx_oi E' F' v ic M := by
  intro q hq
  have l := List.all_eq_true.mp hl q hq
  rw [Bool.and_eq_true] at l
  obtain ⟨h1, h2⟩ := h q hq
  refine ⟨?_, ?_⟩
  · rcases h1 with h1 | h1
    · exact Or.inl (by omega)
    · exact Or.inr h1
  · rw [sx_e_up hr l.1, sx_e_up hr l.2, ← ly_rd hp hg]
    exact h2
theorem ly_or {E E' : sx_E} {pl : Nat → Nat} {r v : Nat → Int} {rc : sx_R} {M : nt_M} (hE : E.2.1.length ≤ E'.2.1.length) (hl : rc.all (fun q => sx_lw 0 q.1.2) = true) (h : sx_or E pl r rc M) : sx_or E' pl v rc M := by
  intro q hq
  have l := List.all_eq_true.mp hl q hq
  obtain ⟨⟨h1, h1'⟩, h2, h3⟩ := h q hq
  have e : sx_e v q.1.2 = sx_e r q.1.2 := sx_e_up (n := 0) (fun s hs => by omega) l
  rw [e]
  exact ⟨⟨by omega, by omega⟩, h2, h3⟩
/-- a known int is one that the memory has -/
theorem ly_cell {pl : Nat → Nat} {v : Nat → Int} {M : nt_M} {g j u : Nat} (hB : ly_B pl v M) (hg : g < 100) (hm : ((g, ((j : Int), [])), (0, [(u, 1)])) ∈ ly_C) : (nt_I M (pl g) j).toInt = v u := by
  have h := (hB.2.2.1 _ hm).2
  dsimp only at h
  rw [sx_c_e, sx_s_e] at h
  unfold sx_rd at h
  rw [if_neg (by omega), if_neg (by omega)] at h
  exact h
theorem ly_ob {pl : Nat → Nat} {v : Nat → Int} {M : nt_M} (hB : ly_B pl v M) : sx_ob v ly_b := by
  have key : ∀ (g j u : Nat), g < 100 → ((g, ((j : Int), [])), (0, [(u, 1)])) ∈ ly_C → -2147483648 ≤ v u ∧ v u ≤ 2147483647 := by
    intro g j u hg hm
    rw [← ly_cell hB hg hm]
    have l1 := (nt_I M (pl g) j).le_toInt
    have l2 := (nt_I M (pl g) j).toInt_lt
    omega
  have k2 : 0 ≤ v 2 ∧ v 2 ≤ 6 := by
    rw [← ly_cell (g := 16) (j := 4) (u := 2) hB (by decide) (List.mem_of_getElem? (i := 2) rfl)]
    exact (hB.2.1.2 16 (10, 0, 0, 8) rfl).2.2.2.2 4
  intro q hq
  rcases List.mem_cons.mp hq with rfl | hq
  · exact key 4 9 0 (by decide) (List.mem_of_getElem? (i := 0) rfl)
  rcases List.mem_cons.mp hq with rfl | hq
  · exact key 31 6 1 (by decide) (List.mem_of_getElem? (i := 1) rfl)
  rcases List.mem_cons.mp hq with rfl | hq
  · exact k2
  rcases List.mem_cons.mp hq with rfl | hq
  · exact key 15 0 3 (by decide) (List.mem_of_getElem? (i := 3) rfl)
  rcases List.mem_cons.mp hq with rfl | hq
  · exact key 15 1 4 (by decide) (List.mem_of_getElem? (i := 4) rfl)
  rcases List.mem_cons.mp hq with rfl | hq
  · exact key 15 2 5 (by decide) (List.mem_of_getElem? (i := 5) rfl)
  rcases List.mem_cons.mp hq with rfl | hq
  · exact key 15 3 6 (by decide) (List.mem_of_getElem? (i := 6) rfl)
  rcases List.mem_cons.mp hq with rfl | hq
  · exact key 14 9 7 (by decide) (List.mem_of_getElem? (i := 7) rfl)
  rcases List.mem_cons.mp hq with rfl | hq
  · exact key 14 221 8 (by decide) (List.mem_of_getElem? (i := 8) rfl)
  rcases List.mem_cons.mp hq with rfl | hq
  · exact key 14 433 9 (by decide) (List.mem_of_getElem? (i := 9) rfl)
  rcases List.mem_cons.mp hq with rfl | hq
  · exact key 14 645 10 (by decide) (List.mem_of_getElem? (i := 10) rfl)
  · cases hq
theorem ly_gh {E : sx_E} {F : sx_F} (hE : E.1.2 = sx_gps) (hF : F.2.2.2 = nt_ghost) : sx_gh E F := nt_ghost_gh hE hF
/-- what holds ahead of a call -/
theorem ly_app {K : sx_K} {pl pl' : Nat → Nat} {v r : Nat → Int} {M : nt_M} {g dl n : Nat} {ed : sx_D} {mo : List (Nat × Int × Int)} {rm : List (Nat × Nat)} {args : List sx_V} {ec : sx_I} {er : sx_R} {bd : sx_B} {cs : List sx_L} {ps : List (Option sx_V × sx_N)} (hK : K = (g, dl, ly_D ++ ed, (mo, rm), args, (ly_C ++ ec, ly_R ++ er, (bd, cs), n), ps)) (hB : ly_B pl v M) (hpl : ∀ h, h < 66 → pl' h = pl h) (hr : ∀ s, s < 11 → r s = v s) (hij : sx_ij (sx_KE (sx_tbs, sx_gps) K) pl') (hhp : ∀ h q, ed[h]? = some q → pl' (66 + h) < nt_n M ∧ nt_k M (pl' (66 + h)) = q.1 ∧ (q.2.1 ≤ (nt_l M (pl' (66 + h)) : Int) ∧ (nt_l M (pl' (66 + h)) : Int) ≤ q.2.2.1) ∧ nt_l M (pl' (66 + h)) < 2147483648 ∧ ∀ j, (sx_iv (sx_tbs.getD q.2.2.2 []) j).1 ≤ (nt_I M (pl' (66 + h)) j).toInt ∧ (nt_I M (pl' (66 + h)) j).toInt ≤ (sx_iv (sx_tbs.getD q.2.2.2 []) j).2) (hec : sx_oi (sx_KE (sx_tbs, sx_gps) K) (pl', M, r, nt_ghost) r ec M) (her : sx_or (sx_KE (sx_tbs, sx_gps) K) pl' r er M) (hob : sx_ob r bd) (hoc : sx_oc r cs) : sx_on (sx_KE (sx_tbs, sx_gps) K) (pl', M, r, nt_ghost) r K.2.2.2.2.2.1 M := by
  subst hK
  obtain ⟨b1, b2, b3, b4⟩ := hB
  have hlen : ly_D.length = 66 := rfl
  refine ⟨⟨ly_gh rfl rfl, hij⟩, ⟨b2.1, fun h q hq => ?_⟩, fun q hq => ?_, fun q hq => ?_, ⟨hob, hoc⟩, fun s hs => rfl, sx_fm_rf⟩
  · have hq : (ly_D ++ ed)[h]? = some q := hq
    by_cases c : h < 66
    · rw [List.getElem?_append_left (by rw [hlen]; exact c)] at hq
      have := b2.2 h q hq
      dsimp only
      rw [hpl h c]
      exact this
    · rw [List.getElem?_append_right (by rw [hlen]; omega), hlen] at hq
      have := hhp (h - 66) q hq
      rw [show 66 + (h - 66) = h from by omega] at this
      exact this
  · rcases List.mem_append.mp hq with h | h
    · have l : sx_lw 11 q.1.2 = true ∧ sx_lw 11 q.2 = true := by
        have := List.all_eq_true.mp (show ly_C.all (fun q => sx_lw 11 q.1.2 && sx_lw 11 q.2) = true from by decide +kernel) q h
        rw [Bool.and_eq_true] at this
        exact this
      have lg : q.1.1 < 66 ∨ 100 ≤ q.1.1 := (b3 q h).1
      have hv := (b3 q h).2
      refine ⟨?_, ?_⟩
      · rcases lg with lg | lg
        · refine Or.inl ?_
          show q.1.1 < (ly_D ++ ed).length
          rw [List.length_append, hlen]
          omega
        · exact Or.inr lg
      · rw [sx_e_up hr l.1, sx_e_up hr l.2, ← hv]
        have hq2 := List.all_eq_true.mp (show ly_C.all (fun q => Nat.blt q.1.1 66 || sx_leq q.1.2 (10000, []) && Nat.beq q.1.1 100) = true from by decide +kernel) q h
        rw [Bool.or_eq_true, Bool.and_eq_true] at hq2
        rcases hq2 with c | ⟨c1, c2⟩
        · have c := Nat.blt_eq.mp c
          unfold sx_rd
          dsimp only
          rw [if_neg (show ¬ 100 ≤ q.1.1 by omega), if_neg (show ¬ 100 ≤ q.1.1 by omega), hpl _ c]
        · rw [Nat.eq_of_beq_eq_true c2]
          unfold sx_rd
          rw [if_pos (by decide), if_pos (by decide)]
          show nt_ghost 0 (fun h j => nt_I M (pl' h) j) _ = nt_ghost 0 (fun h j => nt_I M (pl h) j) _
          refine ly_gh (E := ly_E) (F := (pl, M, v, nt_ghost)) rfl rfl 0 _ _ _ ?_
          intro h hh j hj
          have : h = 1 ∨ h = 2 ∨ h = 3 := by
            rcases List.mem_cons.mp hh with e | hh
            · exact Or.inl e
            rcases List.mem_cons.mp hh with e | hh
            · exact Or.inr (Or.inl e)
            · exact Or.inr (Or.inr (List.mem_singleton.mp hh))
          rw [hpl h (by omega)]
    · exact hec q h
  · rcases List.mem_append.mp hq with h | h
    · have l := List.all_eq_true.mp (show ly_R.all (fun q => sx_lw 0 q.1.2 && (Nat.blt q.1.1 66 && (Nat.blt 0 q.2 && Nat.ble q.2 66))) = true from by decide +kernel) q h
      rw [Bool.and_eq_true, Bool.and_eq_true, Bool.and_eq_true] at l
      obtain ⟨l1, l2, l3, l4⟩ := l
      have l2 := Nat.blt_eq.mp l2
      have l3 := Nat.blt_eq.mp l3
      have l4 := Nat.le_of_ble_eq_true l4
      obtain ⟨h1, h2, h3⟩ := b4 q h
      have e : sx_e r q.1.2 = sx_e v q.1.2 := sx_e_up (n := 0) (fun s hs => by omega) l1
      rw [e]
      refine ⟨⟨?_, ?_⟩, h2, ?_⟩
      · show q.1.1 < (ly_D ++ ed).length
        rw [List.length_append, hlen]
        omega
      · show q.2 ≤ (ly_D ++ ed).length
        rw [List.length_append, hlen]
        omega
      · dsimp only
        rw [hpl _ l2, h3]
        unfold sx_rq
        rw [if_neg (by omega), if_neg (by omega), hpl _ (by omega)]
    · exact her q h
/-- what a call may have changed beyond what is known -/
def ly_fr (n : Nat) (pl : Nat → Nat) (M M' : nt_M) : Prop := (nt_n M' = nt_n M ∧ nt_z M' = nt_z M ∧ nt_k M' = nt_k M ∧ nt_l M' = nt_l M) ∧ (∀ a, (∀ g, g < n → a ≠ pl g) → (∀ j, nt_I M' a j = nt_I M a j) ∧ ∀ j, nt_R M' a j = nt_R M a j) ∧ ∀ g j, (g = 23 ∨ g = 65) → nt_R M' (pl g) j = nt_R M (pl g) j
/-- cells of the tapes, the counts of rules -/
def lq_c (g j : Nat) : Prop := g = 17 ∨ g = 18 ∨ g = 8 ∨ (g = 16 ∧ j = 4) ∨ (g = 0 ∧ (j = 1 ∨ j = 2))
def lq_o (q : Nat × Int × Int) : Bool := !Nat.beq q.1 17 && (!Nat.beq q.1 18 && (!Nat.beq q.1 8 && (!(Nat.beq q.1 16 && (decide (q.2.1 ≤ 4) && decide (4 ≤ q.2.2))) && !(Nat.beq q.1 0 && (decide (q.2.1 ≤ 2) && decide (1 ≤ q.2.2))))))
def lq_b (n : Nat) (q : Nat × Int × Int) : Bool := Nat.blt q.1 n && lq_o q
def lq_T (pl : Nat → Nat) (M M' : nt_M) : Prop := ∀ g j, lq_c g j → nt_I M' (pl g) j = nt_I M (pl g) j
def ly_fs (pl : Nat → Nat) (M M' : nt_M) : Prop := ly_fr 66 pl M M' ∧ lq_T pl M M'
theorem lq_c66 {g j : Nat} (h : lq_c g j) : g < 66 := by
  rcases h with h | h | h | h | h <;> omega
theorem lq_oc {q : Nat × Int × Int} {j : Nat} (h : lq_o q = true) (hc : lq_c q.1 j) (h1 : q.2.1 ≤ (j : Int)) (h2 : (j : Int) ≤ q.2.2) : False := by
  unfold lq_o at h
  rw [Bool.and_eq_true, Bool.and_eq_true, Bool.and_eq_true, Bool.and_eq_true, Bool.not_eq_true', Bool.not_eq_true', Bool.not_eq_true', Bool.not_eq_true', Bool.not_eq_true'] at h
  obtain ⟨a, b, c, d, e⟩ := h
  rcases hc with hc | hc | hc | ⟨hc, hj⟩ | ⟨hc, hj⟩
  · rw [hc] at a; exact absurd a (by decide)
  · rw [hc] at b; exact absurd b (by decide)
  · rw [hc] at c; exact absurd c (by decide)
  · rw [hc, decide_eq_true (by omega), decide_eq_true (by omega)] at d
    exact absurd d (by decide)
  · rw [hc, decide_eq_true (by omega), decide_eq_true (by omega)] at e
    exact absurd e (by decide)
theorem lq_b1 {n : Nat} {l : List (Nat × Int × Int)} (h : l.all (lq_b n) = true) : l.all (fun q => Nat.blt q.1 n) = true := by
  refine List.all_eq_true.mpr (fun q hq => ?_)
  have := List.all_eq_true.mp h q hq
  unfold lq_b at this
  rw [Bool.and_eq_true] at this
  exact this.1
theorem lq_Tm {K : sx_K} {pl : Nat → Nat} {M M' : nt_M} {n : Nat} (hn : 66 ≤ K.2.2.1.length) (hij : sx_ij (sx_KE (sx_tbs, sx_gps) K) pl) (hmo : K.2.2.2.1.1.all (lq_b n) = true) (h : sx_fm (sx_KE (sx_tbs, sx_gps) K) pl M M') : lq_T pl M M' := by
  intro g j hc
  refine h.2.1 _ j fun q hq hl hz => ?_
  have hg := lq_c66 hc
  have e := hij g q.1 (by show g < K.2.2.1.length; omega) hl hz.1
  have l := List.all_eq_true.mp hmo q hq
  unfold lq_b at l
  rw [Bool.and_eq_true] at l
  exact lq_oc l.2 (e ▸ hc) hz.2.1 hz.2.2
theorem ly_frm {K : sx_K} {pl : Nat → Nat} {M M' : nt_M} {n : Nat} (hn : n ≤ K.2.2.1.length) (hn2 : 66 ≤ n) (hij : sx_ij (sx_KE (sx_tbs, sx_gps) K) pl) (hmo : K.2.2.2.1.1.all (fun q => Nat.blt q.1 n) = true) (hrm : K.2.2.2.1.2.all (fun q => Nat.blt q.1 n && (!Nat.beq q.1 23 && !Nat.beq q.1 65)) = true) (h : sx_fm (sx_KE (sx_tbs, sx_gps) K) pl M M') : ly_fr n pl M M' := by
  obtain ⟨h1, h2, h3, h4⟩ := h
  refine ⟨h1, fun a ha => ⟨fun j => h2 a j fun q hq hl hz => ?_, fun j => h3 a j fun q hq hl hz => ?_⟩, fun g j hg => h3 _ j fun q hq hl hz => ?_⟩
  · exact ha q.1 (Nat.blt_eq.mp (List.all_eq_true.mp hmo q hq)) hz.1
  · have l := List.all_eq_true.mp hrm q hq
    rw [Bool.and_eq_true] at l
    exact ha q.1 (Nat.blt_eq.mp l.1) hz.1
  · have e := hij g q.1 (by show g < K.2.2.1.length; omega) hl hz.1
    have l := List.all_eq_true.mp hrm q hq
    rw [Bool.and_eq_true, Bool.and_eq_true, Bool.not_eq_true', Bool.not_eq_true'] at l
    rcases hg with c | c
    · rw [c] at e
      rw [← e] at l
      exact absurd l.2.1 (by decide)
    · rw [c] at e
      rw [← e] at l
      exact absurd l.2.2 (by decide)
theorem ly_fsm {K : sx_K} {pl : Nat → Nat} {M M' : nt_M} (hn : 66 ≤ K.2.2.1.length) (hij : sx_ij (sx_KE (sx_tbs, sx_gps) K) pl) (hmo : K.2.2.2.1.1.all (lq_b 66) = true) (hrm : K.2.2.2.1.2.all (fun q => Nat.blt q.1 66 && (!Nat.beq q.1 23 && !Nat.beq q.1 65)) = true) (h : sx_fm (sx_KE (sx_tbs, sx_gps) K) pl M M') : ly_fs pl M M' := ⟨ly_frm hn (Nat.le_refl _) hij (lq_b1 hmo) hrm h, lq_Tm hn hij hmo h⟩
/-- what holds behind a call, of the regions that are always there -/
theorem ly_bk {K : sx_K} {F : sx_F} {pl : Nat → Nat} {v' r' : Nat → Int} {M' : nt_M} {ed : sx_D} {ic : sx_I} {rc : sx_R} {bc : sx_B × List sx_L} {nx : Nat} (hD : K.2.2.1 = ly_D ++ ed) (hF : F.2.2.2 = nt_ghost) (hpl : ∀ h, h < 66 → F.1 h = pl h) (h : sx_on (sx_KE (sx_tbs, sx_gps) K) F r' (ic, rc, bc, nx) M') (hc : sx_oi ly_E (pl, M', v', nt_ghost) v' ly_C M') (hrr : sx_or ly_E pl v' ly_R M') : ly_B pl v' M' := by
  have hlen : ly_D.length = 66 := rfl
  refine ⟨fun a b ha hb e => ?_, ⟨h.2.1.1, fun g q hq => ?_⟩, hc, hrr⟩
  · have ha : a < 66 := ha
    have hb : b < 66 := hb
    have hl : 66 ≤ (sx_KE (sx_tbs, sx_gps) K).2.1.length := by
      show 66 ≤ K.2.2.1.length
      rw [hD, List.length_append, hlen]
      omega
    exact h.1.2 a b (by omega) (by omega) (by rw [hpl a ha, hpl b hb]; exact e)
  · have hq0 : ly_D[g]? = some q := hq
    have hg : g < 66 := by
      have := (List.getElem?_eq_some_iff.mp hq0).1
      rw [hlen] at this
      exact this
    have := h.2.1.2 g q (by
      show K.2.2.1[g]? = some q
      rw [hD, List.getElem?_append_left (by rw [hlen]; exact hg)]
      exact hq0)
    rw [hpl g hg] at this
    exact this
/-- THE CALLS that change nothing of what is known -/
theorem ly_genW {X : nt_X} {K : sx_K} {pl : Nat → Nat} {v r : Nat → Int} {M : nt_M} {d g dl n : Nat} {mo : List (Nat × Int × Int)} {rm : List (Nat × Nat)} {args : List sx_V} {ec : sx_I} {bd : sx_B} {cs : List sx_L} {vs : List Value} (hK : sx_KOK X (sx_tbs, sx_gps) K) (hKe : K = (g, dl, ly_D ++ [], (mo, rm), args, (ly_C ++ ec, ly_R ++ [], (bd, cs), n), [(some (0, 0, (0, [(n, 1)])), (ly_C, ly_R, ([(n, -2147483648, 2147483647)], []), n + 1))])) (hn : 11 ≤ n) (hmo : mo.all (fun q => Nat.blt q.1 66) = true) (hrm : rm.all (fun q => Nat.blt q.1 66 && (!Nat.beq q.1 23 && !Nat.beq q.1 65)) = true) (hd : dl ≤ d) (hB : ly_B pl v M) (hr : ∀ s, s < 11 → r s = v s) (hargs : sx_os pl r args vs) (hec : sx_oi (sx_KE (sx_tbs, sx_gps) K) (pl, M, r, nt_ghost) r ec M) (hob : sx_ob r bd) (hoc : sx_oc r cs) : ∃ (x : Int32) (M' : nt_M), nt_ev X d g vs M (some (.int x), M') ∧ ly_B pl v M' ∧ ly_fr 66 pl M M' := by
  have hij : sx_ij (sx_KE (sx_tbs, sx_gps) K) pl := by
    intro a b ha hb e
    rw [hKe] at ha hb
    have ha : a < (ly_D ++ []).length := ha
    have hb : b < (ly_D ++ []).length := hb
    rw [List.append_nil] at ha hb
    exact hB.1 a b ha hb e
  have hon := ly_app hKe hB (fun _ _ => rfl) hr hij (fun h q hq => by rw [List.getElem?_nil] at hq; cases hq) hec (fun q hq => by cases hq) hob hoc
  have hK0 := hKe
  subst hKe
  obtain ⟨o, h1, p, hp, r', h2, h3⟩ := hK (pl, M, r, nt_ghost) r vs M d hd rfl rfl rfl hargs hon
  rw [List.mem_singleton.mp hp] at h2 h3
  obtain ⟨ov, M'⟩ := o
  cases ov with
  | none => exact h2.elim
  | some w =>
    obtain ⟨x, rfl, hx⟩ := h2
    have hr' : ∀ s, s < 11 → v s = r' s := fun s hs => ((h3.2.2.2.2.2.1 s (Nat.lt_of_lt_of_le hs hn)).trans (hr s hs)).symm
    refine ⟨x, M', h1, ly_bk (ed := []) rfl rfl (fun _ _ => rfl) h3 (ly_oi (n := 11) (Nat.le_of_eq rfl) rfl rfl hr' (by decide +kernel) h3.2.2.1) (ly_or (Nat.le_of_eq rfl) (by decide +kernel) h3.2.2.2.1), ly_frm (n := 66) (Nat.le_of_eq rfl) (Nat.le_refl _) hij hmo hrm h3.2.2.2.2.2.2⟩
/-- THE CALLS that change nothing of what is known -/
theorem ly_gen {X : nt_X} {K : sx_K} {pl : Nat → Nat} {v r : Nat → Int} {M : nt_M} {d g dl n : Nat} {mo : List (Nat × Int × Int)} {rm : List (Nat × Nat)} {args : List sx_V} {ec : sx_I} {bd : sx_B} {cs : List sx_L} {vs : List Value} (hK : sx_KOK X (sx_tbs, sx_gps) K) (hKe : K = (g, dl, ly_D ++ [], (mo, rm), args, (ly_C ++ ec, ly_R ++ [], (bd, cs), n), [(some (0, 0, (0, [(n, 1)])), (ly_C, ly_R, ([(n, -2147483648, 2147483647)], []), n + 1))])) (hn : 11 ≤ n) (hmo : mo.all (lq_b 66) = true) (hrm : rm.all (fun q => Nat.blt q.1 66 && (!Nat.beq q.1 23 && !Nat.beq q.1 65)) = true) (hd : dl ≤ d) (hB : ly_B pl v M) (hr : ∀ s, s < 11 → r s = v s) (hargs : sx_os pl r args vs) (hec : sx_oi (sx_KE (sx_tbs, sx_gps) K) (pl, M, r, nt_ghost) r ec M) (hob : sx_ob r bd) (hoc : sx_oc r cs) : ∃ (x : Int32) (M' : nt_M), nt_ev X d g vs M (some (.int x), M') ∧ ly_B pl v M' ∧ ly_fs pl M M' := by
  have hij : sx_ij (sx_KE (sx_tbs, sx_gps) K) pl := by
    intro a b ha hb e
    rw [hKe] at ha hb
    have ha : a < (ly_D ++ []).length := ha
    have hb : b < (ly_D ++ []).length := hb
    rw [List.append_nil] at ha hb
    exact hB.1 a b ha hb e
  have hon := ly_app hKe hB (fun _ _ => rfl) hr hij (fun h q hq => by rw [List.getElem?_nil] at hq; cases hq) hec (fun q hq => by cases hq) hob hoc
  have hK0 := hKe
  subst hKe
  obtain ⟨o, h1, p, hp, r', h2, h3⟩ := hK (pl, M, r, nt_ghost) r vs M d hd rfl rfl rfl hargs hon
  rw [List.mem_singleton.mp hp] at h2 h3
  obtain ⟨ov, M'⟩ := o
  cases ov with
  | none => exact h2.elim
  | some w =>
    obtain ⟨x, rfl, hx⟩ := h2
    have hr' : ∀ s, s < 11 → v s = r' s := fun s hs => ((h3.2.2.2.2.2.1 s (Nat.lt_of_lt_of_le hs hn)).trans (hr s hs)).symm
    refine ⟨x, M', h1, ly_bk (ed := []) rfl rfl (fun _ _ => rfl) h3 (ly_oi (n := 11) (Nat.le_of_eq rfl) rfl rfl hr' (by decide +kernel) h3.2.2.1) (ly_or (Nat.le_of_eq rfl) (by decide +kernel) h3.2.2.2.1), ly_fsm (Nat.le_of_eq rfl) hij hmo hrm h3.2.2.2.2.2.2⟩
