/-! what holds at the law's start -/
def ly_p0 (g : Nat) : Nat := if g < 16 then [50, 52, 54, 55, 62, 60, 61, 63, 51, 59, 53, 56, 57, 58, 64, 65].getD g 0 else g - 16
theorem ly_p0_lt : (List.range 66).all (fun g => Nat.blt (ly_p0 g) 66) = true := by decide +kernel
theorem ly_p0_ij : (List.range 66).all (fun g => (List.range 66).all (fun h => !Nat.beq (ly_p0 g) (ly_p0 h) || Nat.beq g h)) = true := by decide +kernel
theorem ly_io_c : ly_cnt ly_io = 66 := by decide +kernel
theorem ly_io_z : ly_zs ly_io = 6434 := by decide +kernel
theorem ly_io_k : (List.range 66).all (fun g => (match ly_D[g]?, ly_kl ly_io (ly_p0 g) with | some q, some p => Nat.beq q.1 p.1 && (decide (q.2.1 ≤ (p.2 : Int)) && (decide ((p.2 : Int) ≤ q.2.2.1) && Nat.blt p.2 2147483648)) | _, _ => false)) = true := by decide +kernel
theorem ly_io_r : ly_R.all (fun q => sx_lw 0 q.1.2 && (decide (0 ≤ q.1.2.1) && (Nat.blt q.1.1 66 && (Nat.blt 0 q.2 && (Nat.ble q.2 66 && (match ly_rl ly_io (ly_p0 q.1.1) q.1.2.1.toNat with | some b => Nat.beq b (ly_p0 (q.2 - 1)) | none => false)))))) = true := by decide +kernel
theorem ly_io_n : (List.range 4).all (fun k => (match ly_rl ly_io 49 k with | some _ => false | none => true)) = true := by decide +kernel
theorem ly_init {M : nt_M} (hn : nt_n M = 66) (hz : nt_z M = 6434) (fk : ∀ i q, ly_kl ly_io i = some q → nt_k M i = q.1 ∧ nt_l M i = q.2) (fI : ∀ i, i < 66 → ∀ j, nt_I M i j = 0) (fR : ∀ i, i < 66 → ∀ j, nt_R M i j = ly_rl ly_io i j) : ly_B ly_p0 (fun _ => 0) M ∧ ly_S ly_p0 (fun _ => 0) (fun _ => 0) 0 M := by
  have plt : ∀ g, g < 66 → ly_p0 g < 66 := fun g hg => Nat.blt_eq.mp (List.all_eq_true.mp ly_p0_lt g (List.mem_range.mpr hg))
  refine ⟨⟨fun a b ha hb e => ?_, ⟨by rw [hn]; decide, fun g q hq => ?_⟩, fun q hq => ?_, fun q hq => ?_⟩, ⟨plt, rfl, rfl, by omega⟩, ⟨by rw [hn]; decide, by rw [hz]; decide⟩, (fun _ => 0), fun k hk => Or.inl ⟨?_, rfl⟩, fun u hu => ?_⟩
  · have l := List.all_eq_true.mp (List.all_eq_true.mp ly_p0_ij a (List.mem_range.mpr ha)) b (List.mem_range.mpr hb)
    rw [e, Bool.or_eq_true] at l
    rcases l with l | l
    · have h1 : Nat.beq (ly_p0 b) (ly_p0 b) = true := Nat.beq_refl _
      rw [h1] at l
      cases l
    · exact Nat.eq_of_beq_eq_true l
  · have hq0 : ly_D[g]? = some q := hq
    have hg : g < 66 := (List.getElem?_eq_some_iff.mp hq0).1
    have l := List.all_eq_true.mp ly_io_k g (List.mem_range.mpr hg)
    rw [hq0] at l
    cases hk : ly_kl ly_io (ly_p0 g) with
    | none => rw [hk] at l; cases l
    | some p =>
      rw [hk] at l
      dsimp only at l
      rw [Bool.and_eq_true, Bool.and_eq_true, Bool.and_eq_true, decide_eq_true_eq, decide_eq_true_eq] at l
      obtain ⟨l1, l2, l3, l4⟩ := l
      have f := fk _ _ hk
      rw [f.1, f.2, hn]
      refine ⟨plt g hg, (Nat.eq_of_beq_eq_true l1).symm, ⟨l2, l3⟩, Nat.blt_eq.mp l4, fun j => ?_⟩
      rw [fI _ (plt g hg) j]
      exact ly_iv0 _ j
  · have key : ∀ (g j u : Nat), g < 66 → (g < ly_E.2.1.length ∨ 100 ≤ g) ∧ sx_rd (ly_p0, M, (fun _ => 0), nt_ghost) M g (sx_e (fun _ => 0) ((j : Int), [])) = sx_e (fun _ => 0) (0, [(u, 1)]) := by
      intro g j u hg
      refine ⟨Or.inl hg, ?_⟩
      rw [sx_c_e, sx_s_e]
      unfold sx_rd
      dsimp only
      rw [if_neg (by omega), if_neg (by omega), fI _ (plt g hg)]
      rfl
    rcases List.mem_cons.mp hq with rfl | hq
    · exact key 4 9 0 (by decide)
    rcases List.mem_cons.mp hq with rfl | hq
    · exact key 31 6 1 (by decide)
    rcases List.mem_cons.mp hq with rfl | hq
    · exact key 16 4 2 (by decide)
    rcases List.mem_cons.mp hq with rfl | hq
    · exact key 15 0 3 (by decide)
    rcases List.mem_cons.mp hq with rfl | hq
    · exact key 15 1 4 (by decide)
    rcases List.mem_cons.mp hq with rfl | hq
    · exact key 15 2 5 (by decide)
    rcases List.mem_cons.mp hq with rfl | hq
    · exact key 15 3 6 (by decide)
    rcases List.mem_cons.mp hq with rfl | hq
    · exact key 14 9 7 (by decide)
    rcases List.mem_cons.mp hq with rfl | hq
    · exact key 14 221 8 (by decide)
    rcases List.mem_cons.mp hq with rfl | hq
    · exact key 14 433 9 (by decide)
    rcases List.mem_cons.mp hq with rfl | hq
    · exact key 14 645 10 (by decide)
    · rw [List.mem_singleton.mp hq]
      refine ⟨Or.inr (by decide), ?_⟩
      dsimp only
      rw [sx_c_e, sx_c_e]
      unfold sx_rd
      rw [if_pos (by decide)]
      show nt_ghost 0 (fun h j => nt_I M (ly_p0 h) j) 10000 = 1
      refine kr_0g fun t c ht hc hlt => ?_
      rw [fI (ly_p0 3) (plt 3 (by decide)) t] at hlt
      have : (c : Int) < 0 := hlt
      omega
  · have l := List.all_eq_true.mp ly_io_r q hq
    rw [Bool.and_eq_true, Bool.and_eq_true, Bool.and_eq_true, Bool.and_eq_true, Bool.and_eq_true, decide_eq_true_eq] at l
    obtain ⟨l1, l2, l3, l4, l5, l6⟩ := l
    have l3 := Nat.blt_eq.mp l3
    have l4 := Nat.blt_eq.mp l4
    have l5 := Nat.le_of_ble_eq_true l5
    rw [ly_lw0 l1]
    refine ⟨⟨l3, l5⟩, l2, ?_⟩
    rw [fR _ (plt _ l3)]
    cases hr : ly_rl ly_io (ly_p0 q.1.1) q.1.2.1.toNat with
    | none => rw [hr] at l6; cases l6
    | some b =>
      rw [hr] at l6
      unfold sx_rq
      rw [if_neg (by omega), Nat.eq_of_beq_eq_true l6]
  · show nt_R M 49 k = none
    rw [fR 49 (by decide)]
    have l := List.all_eq_true.mp ly_io_n k (List.mem_range.mpr hk)
    cases hr : ly_rl ly_io 49 k with
    | none => rfl
    | some b => rw [hr] at l; cases l
  · omega
theorem ly_init2 : ∃ M, M = ly_fo 0 nt_M0 ly_io ∧ ly_B ly_p0 (fun _ => 0) M ∧ ly_S ly_p0 (fun _ => 0) (fun _ => 0) 0 M := by
  refine ⟨_, rfl, ?_⟩
  obtain ⟨M, hM⟩ : ∃ M, M = ly_fo 0 nt_M0 ly_io := ⟨_, rfl⟩
  rw [← hM]
  have h0 : nt_n nt_M0 = 0 := rfl
  refine ly_init (by rw [hM, ly_fo_n, ly_io_c]; rfl) (by rw [hM, ly_fo_z, ly_io_z]; rfl) (fun i q h => ?_) (fun i hi j => ?_) (fun i hi j => ?_)
  · have := ly_fo_k (n := 0) (M := nt_M0) h0 h
    rw [Nat.zero_add, ← hM] at this
    exact this
  · have := ly_fo_I (n := 0) (M := nt_M0) (i := i) h0 ly_io (by rw [ly_io_c]; exact hi) j
    rw [Nat.zero_add, ← hM] at this
    exact this
  · have := ly_fo_R (n := 0) (M := nt_M0) (i := i) h0 ly_io (by rw [ly_io_c]; exact hi) j
    rw [Nat.zero_add, ← hM] at this
    rw [this]
    cases ly_rl ly_io i j with
    | none => rfl
    | some b => show some (0 + b) = some b; rw [Nat.zero_add]
