/-! a yard read by both, everything kept -/
def zz_oy (g : Nat) : Bool := !(Nat.beq g 17 || (Nat.beq g 19 || (Nat.ble 48 g && Nat.blt g 65)))
def zz_ov (g : Nat) : Bool := !(Nat.beq g 0 || (Nat.beq g 4 || (Nat.beq g 10 || (Nat.beq g 11 || (Nat.beq g 12 || Nat.beq g 13)))))
theorem zz_yardT {X : nt_X} {pl : Nat → Nat} {v : Nat → Int} {M : nt_M} {o : Option Value × nt_M} (hB : ly_B pl v M) (k : nt_ev X 99 104 [.ref (pl 16)] M o) : zz_T zz_oy pl M o.2 := zz_gen (vs := [.ref (pl 16)]) (ec := []) (r := v) (ko_w_n_yard X) rfl (by decide +kernel) (by decide) hB (fun _ _ => rfl) ⟨rfl, trivial⟩ (fun q hq => by cases hq) (ly_ob hB) ly_oc0 k
theorem zz_yardV {X : nt_X} {pl : Nat → Nat} {v : Nat → Int} {M : nt_M} {o : Option Value × nt_M} (hB : ly_B pl v M) (k : nt_ev X 99 166 [.ref (pl 0)] M o) : zz_T zz_ov pl M o.2 := zz_gen (vs := [.ref (pl 0)]) (ec := []) (r := v) (ko_w_yard X) rfl (by decide +kernel) (by decide) hB (fun _ _ => rfl) ⟨rfl, trivial⟩ (fun q hq => by cases hq) (ly_ob hB) ly_oc0 k
theorem zz_sgI {pl : Nat → Nat} {M : nt_M} (h : zz_I pl M) : zz_I (fun g => pl (ly_sg g)) M := by
  refine ⟨fun k hk a ha => ?_, fun u b hu hb => ?_⟩
  · exact h.1 k hk a ha
  · obtain ⟨h1, h2⟩ := h.2 u b hu hb
    refine ⟨h1, ?_⟩
    obtain ⟨a, b, c, d⟩ := h2
    exact ⟨a, b, c, d⟩
theorem zz_yard2 {X : nt_X} {pl pl' : Nat → Nat} {v mk xi : Nat → Int} {rc : Int} {M M1 M2 : nt_M} {y1 y2 : Int32} {t : Nat} (hB : ly_B pl v M) (hS : ly_S pl mk xi rc M) (ht : t ≤ 400) (h17 : nt_I M (pl 17) 1 = nI t) (h01 : nt_I M (pl 0) 1 = nI t) (h8 : ∀ j, nt_I M (pl 8) j = nt_I M (pl 18) j) (hB1 : ly_B pl' v M1) (f1 : ly_fr 66 pl M M1) (hB2 : ly_B pl' v M2) (f2 : ly_fr 66 pl' M1 M2) (hp : pl' = pl ∨ pl' = fun g => pl (ly_sg g)) (e1 : nt_ev X 99 104 [.ref (pl 16)] M (some (.int y1), M1)) (e2 : nt_ev X 99 166 [.ref (pl' 0)] M1 (some (.int y2), M2)) (hZ : zz_E pl M) : y1 = y2 ∧ zz_E pl' M2 := by
  have ne := zz_ne hB
  have T1 := zz_yardT hB e1
  have T2 := zz_yardV hB1 e2
  dsimp only at T1 T2
  have s0 : pl' 0 = pl 0 := by rcases hp with rfl | rfl <;> rfl
  have s8 : pl' 8 = pl 8 := by rcases hp with rfl | rfl <;> rfl
  have s4 : pl' 4 = pl 4 := by rcases hp with rfl | rfl <;> rfl
  have s16 : pl' 16 = pl 16 := by rcases hp with rfl | rfl <;> rfl
  have lo : ∀ g, g < 31 → pl' g = pl g := by
    intro g hg
    rcases hp with rfl | rfl
    · rfl
    · show pl (ly_sg g) = pl g
      unfold ly_sg
      rw [if_neg (by omega), if_neg (by omega)]
  have s65 : pl' 65 = pl 65 := by rcases hp with rfl | rfl <;> rfl
  obtain ⟨n1, r1, q1, w1⟩ := lq_yardA hB ht h17 e1
  obtain ⟨r2, ⟨n2, q2⟩, w2⟩ := lq_yardB (f := nt_I M (pl 18)) hB1 ht (by rw [s0, T1 0 (by omega) rfl]; exact h01) (fun j => by rw [s8, T1 8 (by omega) rfl]; exact h8 j) e2
  have er := lb_ya_det _ _ _ _ _ _ q1 q2
  subst er
  have r7 : nt_R M1 (pl 16) 7 = some (pl' 31) := by
    have := ly_ref (g := 16) (j := 7) (k := 31) hB1 (List.mem_of_getElem? (i := 6) rfl)
    rw [s16] at this
    exact this
  have I2 : zz_I pl' M2 := by
    have i1 : zz_I pl M1 := zz_Ifr hS f1 (fun g hg => T1 g (by omega) (by rcases hg with rfl | rfl | rfl | rfl | rfl <;> rfl)) hZ.2
    have i1' : zz_I pl' M1 := by
      rcases hp with rfl | rfl
      · exact i1
      · exact zz_sgI i1
    have hS1 : ∀ g, g < 66 → pl' g < 66 := fun g hg => by
      rcases hp with rfl | rfl
      · exact hS.1.1 g hg
      · exact hS.1.1 _ (ly_sg_lt hg)
    exact zz_Ik f2.1.1 f2.1.2.2.2 (fun k => f2.2.2 65 k (Or.inr rfl)) (fun k => f2.2.2 23 k (Or.inl rfl)) (fun g hg => T2 g (by omega) (by rcases hg with rfl | rfl | rfl | rfl | rfl <;> rfl)) (fun a ha => funext (f2.2.1 a (fun g hg e => by have := hS1 g hg; omega)).1) i1'
  have v31 : ∀ i, i < 17 → nt_I M2 (pl' (31 + i)) = nt_I M1 (pl' (31 + i)) := fun i hi => T2 _ (by omega) (by
    rcases (by omega : i = 0 ∨ i = 1 ∨ i = 2 ∨ i = 3 ∨ i = 4 ∨ i = 5 ∨ i = 6 ∨ i = 7 ∨ i = 8 ∨ i = 9 ∨ i = 10 ∨ i = 11 ∨ i = 12 ∨ i = 13 ∨ i = 14 ∨ i = 15 ∨ i = 16) with rfl | rfl | rfl | rfl | rfl | rfl | rfl | rfl | rfl | rfl | rfl | rfl | rfl | rfl | rfl | rfl | rfl <;> rfl)
  rcases w1 with ⟨c, ec, _, ey, e7⟩ | ⟨u, eu, ey, e7, hub, k0, D, hyC, JY, hyR, eI⟩ <;> rcases w2 with ⟨c', ec', ey', e4⟩ | ⟨u', eu', ey', hub', k0', D', hyC', hR⟩
  · rw [ec] at ec'
    cases ec'
    rw [e7] at r7
    have e31 : pl' 31 = pl 31 := (Option.some.inj r7).symm
    have ep : pl' = pl := by
      rcases hp with rfl | rfl
      · rfl
      · exact absurd e31 (ne 48 31 (by omega) (by omega) (by decide))
    refine ⟨by rw [ey, ey'], ?_, I2⟩
    rw [show nt_I M2 (pl' 4) = nt_I M1 (pl' 4) from funext e4, s4, T1 4 (by omega) rfl]
    refine zz_Rag (fun i hi => ?_) (q := fun i => pl' (31 + i)) (J := nt_I M) ?_
    · rw [v31 i hi, ep]
      exact T1 _ (by omega) (by
        rcases (by omega : i = 0 ∨ i = 1 ∨ i = 2 ∨ i = 3 ∨ i = 4 ∨ i = 5 ∨ i = 6 ∨ i = 7 ∨ i = 8 ∨ i = 9 ∨ i = 10 ∨ i = 11 ∨ i = 12 ∨ i = 13 ∨ i = 14 ∨ i = 15 ∨ i = 16) with rfl | rfl | rfl | rfl | rfl | rfl | rfl | rfl | rfl | rfl | rfl | rfl | rfl | rfl | rfl | rfl | rfl <;> rfl)
    · rw [ep]
      exact hZ.1
  · rw [ec] at eu'
    cases eu'
  · rw [eu] at ec'
    cases ec'
  · rw [eu] at eu'
    cases eu'
    rw [e7] at r7
    have e31 : pl' 31 = pl 48 := (Option.some.inj r7).symm
    have ep : pl' = fun g => pl (ly_sg g) := by
      rcases hp with rfl | rfl
      · exact absurd e31 (ne 31 48 (by omega) (by omega) (by decide))
      · rfl
    have eq : ∀ i, i < 17 → pl' (31 + i) = pl (48 + i) := fun i hi => by
      rw [ep]
      show pl (ly_sg (31 + i)) = _
      unfold ly_sg
      rw [if_pos (by omega), show 31 + i + 17 = 48 + i from by omega]
    obtain ⟨_, hk, hk1⟩ := lb_yaC2 k0 k0' 0 _ u u _ _ D D' (fun _ => ⟨rfl, rfl, rfl⟩) (fun c => absurd rfl c) (Nat.zero_le _) (Nat.zero_le _) yk_0 hyC hyC'
    refine ⟨by rw [ey, ey'], ?_, I2⟩
    have hq : zq (fun i => pl (48 + i)) := fun i j hi hj e => ne _ _ (by omega) (by omega) (by omega)
    have key := yy_R (q := fun i => pl (48 + i)) (x' := JY (pl 31) 6) hq hub hk1 ⟨hyR.1, fun i h5 h12 j => by
      show JY (pl (48 + (i - 3))) j = _
      rw [show 48 + (i - 3) = 45 + i from by omega]
      exact hyR.2 i h5 h12 j⟩ hk hR (zz_W hB2)
    rw [← eI] at key
    have key2 : zz_R (fun i => pl (48 + i)) (nt_I M2) (nt_I M2 (pl' 4)) := zz_Rag (fun i hi => by
      have := v31 i hi
      rw [eq i hi] at this
      exact this) key
    obtain ⟨⟨a1, a2⟩, a3⟩ := key2
    refine ⟨⟨fun j hj => ?_, ?_⟩, a3⟩
    · show nt_I M2 (pl' (31 + (zc j).1)) (zc j).2 = _
      rw [eq _ (zc_17 j (zv_lt hj))]
      exact a1 j hj
    · show nt_I M2 (pl' (31 + 0)) 1 = _
      rw [eq 0 (by omega)]
      exact a2
