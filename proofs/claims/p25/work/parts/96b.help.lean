/-! cells told by contracts -/
theorem lw_oiN {E : sx_E} {F : sx_F} {r : Nat → Int} {M : nt_M} : sx_oi E F r [] M := fun q hq => by cases hq
theorem lw_oiC {E : sx_E} {F : sx_F} {r : Nat → Int} {M : nt_M} {g j : Nat} {L : sx_L} {l : sx_I} (hg : g < E.2.1.length) (h100 : g < 100) (h : (nt_I M (F.1 g) j).toInt = sx_e r L) (h2 : sx_oi E F r l M) : sx_oi E F r (((g, ((j : Int), [])), L) :: l) M := by
  intro q hq
  rcases List.mem_cons.mp hq with e | hq
  · rw [e]
    refine ⟨Or.inl hg, ?_⟩
    dsimp only
    rw [sx_c_e]
    unfold sx_rd
    rw [if_neg (by omega), if_neg (by omega)]
    exact h
  · exact h2 q hq
theorem lw_rd {E : sx_E} {F : sx_F} {r : Nat → Int} {M : nt_M} {ic : sx_I} {g j : Nat} {L : sx_L} (h : sx_oi E F r ic M) (hm : ((g, ((j : Int), [])), L) ∈ ic) (h100 : g < 100) : (nt_I M (F.1 g) j).toInt = sx_e r L := by
  have q := (h _ hm).2
  dsimp only at q
  rw [sx_c_e] at q
  unfold sx_rd at q
  rw [if_neg (by omega), if_neg (by omega)] at q
  exact q
theorem lw_s {x y : Int} (h : x = y) : 0 + (1 * x + 0) = y := by omega
theorem lw_app {X : nt_X} {K : sx_K} {pl' : Nat → Nat} {r : Nat → Int} {M : nt_M} {d g dl n : Nat} {ed : sx_D} {mo : List (Nat × Int × Int)} {rm : List (Nat × Nat)} {args : List sx_V} {ec : sx_I} {er : sx_R} {bd : sx_B} {cs : List sx_L} {ps : List (Option sx_V × sx_N)} {vs : List Value} {o : Option Value × nt_M} (hK : sx_KOK X (sx_tbs, sx_gps) K) (hKe : K = (g, dl, ly_D ++ ed, (mo, rm), args, (ly_C ++ ec, ly_R ++ er, (bd, cs), n), ps)) (hd : dl ≤ d) (hon : sx_on (sx_KE (sx_tbs, sx_gps) K) (pl', M, r, nt_ghost) r K.2.2.2.2.2.1 M) (hargs : sx_os pl' r args vs) (k : nt_ev X d g vs M o) : ∃ p ∈ ps, ∃ r', sx_ov pl' r' p.1 o.1 ∧ sx_on (sx_KE (sx_tbs, sx_gps) K) (pl', M, r, nt_ghost) r' p.2 o.2 := by
  subst hKe
  obtain ⟨o', h1, p, hp, r', h2, h3⟩ := ly_run hK hd hargs hon
  have e : o = o' := lz_det k h1
  subst e
  exact ⟨p, hp, r', h2, h3⟩
