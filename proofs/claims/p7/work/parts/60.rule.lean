/-! THE RULE of the class -/
theorem ly_vI {pl : Nat → Nat} {v : Nat → Int} {M : nt_M} (hB : ly_B pl v M) : (nt_I M (pl 16) 4).toInt = v 2 := ly_cell (g := 16) (j := 4) (u := 2) hB (by decide) (List.mem_of_getElem? (i := 2) rfl)
theorem ly_ref {pl : Nat → Nat} {v : Nat → Int} {M : nt_M} {g j k : Nat} (hB : ly_B pl v M) (hm : ((g, ((j : Int), [])), k + 1) ∈ ly_R) : nt_R M (pl g) j = some (pl k) := by
  have h := (hB.2.2.2 _ hm).2.2
  dsimp only at h
  rw [sx_c_e, show ((j : Int)).toNat = j from by omega] at h
  rw [h]
  unfold sx_rq
  rw [if_neg (by omega), Nat.add_sub_cancel]
/-- what the class's rule does to the tape and the count -/
def lq_R (X : nt_X) (pl : Nat → Nat) (v v' : Nat → Int) (d : Nat) (y : Int32) (M M' : nt_M) : Prop := (6 ≤ v 2 ∧ y = Int32.ofInt (-1) ∧ M' = M) ∨ (v 2 < 6 ∧ ∃ (x : Int32) (M1 : nt_M), nt_ev X d 48 [.ref (pl 21)] M (some (.int x), M1) ∧ nt_I M' (pl 17) 1 = Int32.ofInt 0 ∧ (∀ p j, p < nt_n M → p ≠ pl 17 → p ≠ pl 16 → nt_I M' p j = nt_I M1 p j) ∧ (∀ k, nt_R M' (pl 65) k = nt_R M (pl 65) k) ∧ ((x ≠ 0 ∧ y = Int32.ofInt (-2) - x ∧ v' 2 = v 2 ∧ (∀ j, nt_R M' (pl 23) j = nt_R M (pl 23) j) ∧ ∀ p, nt_l M' p = nt_l M p) ∨ (x = 0 ∧ v' 2 = v 2 + 1 ∧ ∃ u : Nat, v 2 = (u : Int) ∧ y = nI (u + 1) - Int32.ofInt 1 ∧ ∃ sz b : Nat, sz < 400 ∧ nt_I M1 (pl 21) 2 = nI sz ∧ 66 ≤ b ∧ nt_n M ≤ b ∧ (∀ j, nt_R M' (pl 23) j = if j = u then some b else nt_R M (pl 23) j) ∧ nt_l M' (b + 1) = sz ∧ (∀ j, j < sz → nt_I M' (b + 1) j = nt_I M1 (pl 22) j) ∧ ∀ p, p < nt_n M → nt_l M' p = nt_l M p)))
theorem ly_ruleC {X : nt_X} {K : sx_K} {pl : Nat → Nat} {v mk xi : Nat → Int} {M : nt_M} {d dl : Nat} {mo : List (Nat × Int × Int)} (hK : sx_KOK X (sx_tbs, sx_gps) K) (hKe : K = (48, dl, ly_D ++ [], (mo, []), [(2, 21, (0, []))], (ly_C ++ [], ly_R ++ [], (ly_b, []), 11), [(some (0, 0, (0, [(11, 1)])), (ly_C, ly_R, ([(11, 1, 2147483647)], []), 12)), (some (0, 0, (0, [])), (ly_C ++ [((21, (2, [])), (0, [(11, 1)]))], ly_R, ([(11, 0, 399)], []), 12))])) (hdl : dl ≤ d + 3) (hmo : mo.all (fun q => Nat.blt q.1 66) = true) (hB : ly_B pl v M) (hS : ly_S pl mk xi (v 2) M) : ∃ (y : Int32) (M' : nt_M) (v' : Nat → Int), nt_ev X (d + 4) 105 [.ref (pl 16)] M (some (.int y), M') ∧ ly_B pl v' M' ∧ ly_S pl mk xi (v' 2) M' ∧ (∀ s, s < 11 → s ≠ 2 → v' s = v s) ∧ nt_n M ≤ nt_n M' ∧ lq_R X pl v v' (d + 3) y M M' := by
  have hv2 := ly_ob hB (2, 0, 6) (List.mem_of_getElem? (i := 2) rfl)
  dsimp only at hv2
  have g16 := hB.2.1.2 16 _ (show ly_E.2.1[16]? = some (10, 0, 0, 8) from rfl)
  have rc0 := ly_vI hB
  have e6 : (Int32.ofInt 6).toInt = 6 := by decide
  by_cases c6 : v 2 < 6
  · -- it is read
    have rr := ly_ref (g := 16) (j := 2) (k := 21) hB (List.mem_of_getElem? (i := 2) rfl)
    have g21 := hB.2.1.2 21 _ (show ly_E.2.1[21]? = some (5, 0, 0, 6) from rfl)
    have hij : sx_ij (sx_KE (sx_tbs, sx_gps) K) pl := by
      intro a b ha hb e
      rw [hKe] at ha hb
      have ha : a < (ly_D ++ []).length := ha
      have hb : b < (ly_D ++ []).length := hb
      rw [List.append_nil] at ha hb
      exact hB.1 a b ha hb e
    have hon := ly_app (r := v) hKe hB (fun _ _ => rfl) (fun _ _ => rfl) hij ly_nil (fun q hq => by cases hq) (fun q hq => by cases hq) (ly_ob hB) ly_oc0
    subst hKe
    obtain ⟨o, k1, p, hp, r', k2, k3⟩ := ly_run hK hdl (vs := [.ref (pl 21)]) ⟨rfl, trivial⟩ hon
    have hr' : ∀ s, s < 11 → r' s = v s := fun s hs => k3.2.2.2.2.2.1 s hs
    have fr : ly_fr 66 pl M o.2 := ly_frm (n := 66) (Nat.le_of_eq rfl) (Nat.le_refl _) hij hmo rfl k3.2.2.2.2.2.2
    obtain ⟨ov, M1⟩ := o
    have fr : ly_fr 66 pl M M1 := fr
    have hS1 : ly_S pl mk xi (v 2) M1 := ly_S_fr fr hS
    obtain ⟨x, hB1, hov, hx⟩ : ∃ x : Int32, ly_B pl v M1 ∧ ov = some (.int x) ∧ (x ≠ 0 ∨ x = 0 ∧ 0 ≤ (nt_I M1 (pl 21) 2).toInt ∧ (nt_I M1 (pl 21) 2).toInt ≤ 399) := by
      rcases List.mem_cons.mp hp with rfl | hp
      · cases ov with
        | none => exact k2.elim
        | some w =>
          obtain ⟨x, rfl, hx⟩ := k2
          have b := k3.2.2.2.2.1.1 (11, 1, 2147483647) (List.Mem.head _)
          dsimp only at b
          rw [sx_s_e] at hx
          exact ⟨x, ly_bk (ed := []) rfl rfl (fun _ _ => rfl) k3 (ly_oiC (more := []) (fun _ _ => rfl) rfl k3.2.2.1 hr') (ly_or2 (more := []) (fun _ _ => rfl) k3.2.2.2.1), rfl, Or.inl (fun e => by rw [e] at hx; have : (0 : Int) = r' 11 := hx; omega)⟩
      · rw [List.mem_singleton.mp hp] at k2 k3
        cases ov with
        | none => exact k2.elim
        | some w =>
          obtain ⟨x, rfl, hx⟩ := k2
          have b := k3.2.2.2.2.1.1 (11, 0, 399) (List.Mem.head _)
          dsimp only at b
          rw [sx_c_e] at hx
          have h := (k3.2.2.1 ((21, (2, [])), (0, [(11, 1)])) (List.mem_append_right _ (List.Mem.head _))).2
          dsimp only at h
          rw [sx_c_e, sx_s_e] at h
          unfold sx_rd at h
          rw [if_neg (by decide), if_neg (by decide)] at h
          have h : (nt_I M1 (pl 21) 2).toInt = r' 11 := h
          exact ⟨x, ly_bk (ed := []) rfl rfl (fun _ _ => rfl) k3 (ly_oiC (fun _ _ => rfl) rfl k3.2.2.1 hr') (ly_or2 (more := []) (fun _ _ => rfl) k3.2.2.2.1), rfl, Or.inr ⟨Int32.toInt_inj.mp hx, by omega, by omega⟩⟩
    subst hov
    -- the tape is empty then
    obtain ⟨M2, hM2⟩ : ∃ M2, M2 = nt_sI M1 (pl 17) 1 (Int32.ofInt 0) := ⟨_, rfl⟩
    have hB2 : ly_B pl v M2 := by
      rw [hM2]
      refine ly_B_wI (q := (7, 0, 0, 4)) hB1 rfl (by decide) (by show (0 : Int) ≤ 0 ∧ (0 : Int) ≤ 400; decide) (fun c hc => ⟨fun z => ?_, fun _ => rfl⟩)
      have l := List.all_eq_true.mp (show ly_C.all (fun c => !Nat.beq c.1.1 17) = true from by decide +kernel) c hc
      rw [z.1] at l
      cases l
    have hS2 : ly_S pl mk xi (v 2) M2 := by
      refine ly_S_fr (M := M1) ?_ hS1
      rw [hM2]
      refine ⟨⟨rfl, rfl, rfl, rfl⟩, fun a ha => ⟨fun j => ?_, fun j => rfl⟩, fun g j hg => rfl⟩
      show (if a = pl 17 then (if j = 1 then Int32.ofInt 0 else nt_I M1 a j) else nt_I M1 a j) = _
      rw [if_neg (ha 17 (by omega))]
    have g16a := hB1.2.1.2 16 _ (show ly_E.2.1[16]? = some (10, 0, 0, 8) from rfl)
    have g17a := hB1.2.1.2 17 _ (show ly_E.2.1[17]? = some (7, 0, 0, 4) from rfl)
    have rt := ly_ref (g := 16) (j := 0) (k := 17) hB1 (List.mem_of_getElem? (i := 0) rfl)
    have head : ∀ r, nt_rn X (d + 4) 105 (27, [(1, .int x), (0, .ref (pl 16))], [], M2) r → nt_rn X (d + 4) 105 (0, [(0, .ref (pl 16))], [], M) r := by
      intro r h
      refine nt_rn_b 1 (c' := (1, [(0, .ref (pl 16))], [.ref (pl 16)], M)) rfl ?_
      refine nt_rn_s (c' := (4, [(0, .ref (pl 16))], [.int (nt_I M (pl 16) 4)], M)) (e := (1, .getfield 98, 1004, 0)) rfl rfl (nt_x_get (c := 10) (v := .int (nt_I M (pl 16) 4)) g16.1 g16.2.1 rfl rfl) ?_
      refine nt_rn_b 2 (c' := (if nt_I M (pl 16) 4 < Int32.ofInt 6 then 11 else 9, [(0, .ref (pl 16))], [], M)) rfl ?_
      rw [if_pos (by rw [sx_lt32, rc0, e6]; exact c6)]
      refine nt_rn_b 1 (c' := (12, [(0, .ref (pl 16))], [.ref (pl 16)], M)) rfl ?_
      refine nt_rn_s (c' := (15, [(0, .ref (pl 16))], [.ref (pl 21)], M)) (e := (12, .getfield 33, 1002, 0)) rfl rfl (nt_x_get (c := 10) (v := .ref (pl 21)) g16.1 g16.2.1 rfl (nt_gfR rfl rr)) ?_
      refine nt_rn_c (g := 48) (q := 1) (vs := [.ref (pl 21)]) (rest := []) (e := (15, .invokevirtual 101, 48, 0)) rfl rfl (Or.inr (Or.inl ⟨_, rfl, rfl⟩)) rfl (fun _ => nt_rcI g21.1 g21.2.1) (fun h => by cases h) k1 ?_
      refine nt_rn_b 2 (c' := (20, [(1, .int x), (0, .ref (pl 16))], [.ref (pl 16)], M1)) rfl ?_
      refine nt_rn_s (c' := (23, [(1, .int x), (0, .ref (pl 16))], [.ref (pl 17)], M1)) (e := (20, .getfield 10, 1000, 0)) rfl rfl (nt_x_get (c := 10) (v := .ref (pl 17)) g16a.1 g16a.2.1 rfl (nt_gfR rfl rt)) ?_
      refine nt_rn_b 1 (c' := (24, [(1, .int x), (0, .ref (pl 16))], [.int (Int32.ofInt 0), .ref (pl 17)], M1)) rfl ?_
      refine nt_rn_s (c' := (27, [(1, .int x), (0, .ref (pl 16))], [], M2)) (e := (24, .putfield 71, 701, 0)) rfl rfl (nt_x_put (c := 7) (M' := M2) g17a.1 g17a.2.1 rfl (by rw [hM2]; rfl)) ?_
      exact h
    by_cases x0 : x = 0
    · -- no fault: it is made
      obtain ⟨s0, s1⟩ : 0 ≤ (nt_I M1 (pl 21) 2).toInt ∧ (nt_I M1 (pl 21) 2).toInt ≤ 399 := by
        rcases hx with h | h
        · exact absurd x0 h
        · exact h.2
      obtain ⟨⟨p1, p2, p3, p4⟩, ⟨p5, p6⟩, T, p7, p8⟩ := hS2
      have mk01 : ∀ i, i < 4 → 0 ≤ mk i ∧ mk i ≤ 1 := by
        intro i hi
        rcases p7 i hi with ⟨_, c⟩ | ⟨a, _, c, _⟩ <;> omega
      have m0 := mk01 0 (by omega)
      have m1 := mk01 1 (by omega)
      have m2 := mk01 2 (by omega)
      have m3 := mk01 3 (by omega)
      obtain ⟨n, hn⟩ : ∃ n, nt_n M2 = n := ⟨_, rfl⟩
      rw [hn] at p4 p5
      obtain ⟨sz, hsz⟩ : ∃ sz : Nat, (nt_I M1 (pl 21) 2).toInt = (sz : Int) := ⟨(nt_I M1 (pl 21) 2).toInt.toNat, by omega⟩
      have n1721 : pl 21 ≠ pl 17 := fun e => absurd (hB.1 21 17 (by show 21 < 66; omega) (by show 17 < 66; omega) e) (by decide)
      have hz2 : nt_I M2 (pl 21) 2 = nI sz := by
        rw [hM2]
        show (if pl 21 = pl 17 then (if 2 = 1 then Int32.ofInt 0 else nt_I M1 (pl 21) 2) else nt_I M1 (pl 21) 2) = _
        rw [if_neg n1721]
        exact Int32.toInt_inj.mp (by rw [nI_toInt (by omega)]; exact hsz)
      have q16 := p1 16 (by omega)
      have q21 := p1 21 (by omega)
      have q22 := p1 22 (by omega)
      have q23 := p1 23 (by omega)
      have q65 := p1 65 (by omega)
      have G16 := hB2.2.1.2 16 _ (show ly_E.2.1[16]? = some (10, 0, 0, 8) from rfl)
      have G21 := hB2.2.1.2 21 _ (show ly_E.2.1[21]? = some (5, 0, 0, 6) from rfl)
      have G22 := hB2.2.1.2 22 _ (show ly_E.2.1[22]? = some (13, 400, 400, 0) from rfl)
      have G23 := hB2.2.1.2 23 _ (show ly_E.2.1[23]? = some (16, 6, 6, 0) from rfl)
      have r22 := ly_ref (g := 21) (j := 1) (k := 22) hB2 (List.mem_of_getElem? (i := 11) rfl)
      have r23 := ly_ref (g := 16) (j := 3) (k := 23) hB2 (List.mem_of_getElem? (i := 3) rfl)
      have r21 := ly_ref (g := 16) (j := 2) (k := 21) hB2 (List.mem_of_getElem? (i := 2) rfl)
      have l22 : nt_l M2 (pl 22) = 400 := by have := G22.2.2.1; dsimp only at this; omega
      have l23 : nt_l M2 (pl 23) = 6 := by have := G23.2.2.1; dsimp only at this; omega
      obtain ⟨M3, hmade, n3, z3, old, kn, kn1, rn, cont⟩ := ly_made (X := X) (d := d + 1) (R := pl 21) (S := pl 22) (sz := sz) hn (by omega) (by omega) G21.2.1 (by omega) G22.2.1 l22 r22 hz2 (by omega)
      have rc2 := ly_vI hB2
      obtain ⟨u, hu⟩ : ∃ u : Nat, v 2 = (u : Int) := ⟨(v 2).toNat, by omega⟩
      have rcI : nt_I M2 (pl 16) 4 = nI u := Int32.toInt_inj.mp (by rw [nI_toInt (by omega), rc2]; exact hu)
      have n2316 : pl 23 ≠ pl 16 := fun e => absurd (hB.1 23 16 (by show 23 < 66; omega) (by show 16 < 66; omega) e) (by decide)
      have n6523 : pl 65 ≠ pl 23 := fun e => absurd (hB.1 65 23 (by show 65 < 66; omega) (by show 23 < 66; omega) e) (by decide)
      obtain ⟨M4, hM4⟩ : ∃ M4, M4 = nt_sR M3 (pl 23) u (some n) := ⟨_, rfl⟩
      have R4 : ∀ p j, p ≠ pl 23 → nt_R M4 p j = nt_R M3 p j := fun p j hp => by
        rw [hM4]
        show (if p = pl 23 then (if j = u then some n else nt_R M3 p j) else nt_R M3 p j) = _
        rw [if_neg hp]
      have R423 : ∀ j, nt_R M4 (pl 23) j = if j = u then some n else nt_R M2 (pl 23) j := fun j => by
        rw [hM4]
        show (if pl 23 = pl 23 then (if j = u then some n else nt_R M3 (pl 23) j) else nt_R M3 (pl 23) j) = _
        rw [if_pos rfl, (old _ (by omega)).2.2.2]
      have o4 : ∀ p, p < n → nt_k M4 p = nt_k M2 p ∧ nt_l M4 p = nt_l M2 p ∧ nt_I M4 p = nt_I M2 p := fun p hp => by
        rw [hM4]
        exact ⟨(old p hp).1, (old p hp).2.1, (old p hp).2.2.1⟩
      have n4 : nt_n M4 = n + 2 := by rw [hM4]; exact n3
      have hB4 : ly_B pl v M4 := by
        refine ly_B_eq hB2 (by omega) (by show nt_n M4 ≤ 3000; omega) (fun g hg => (o4 _ (by have := p1 g hg; omega)).1) (fun g hg => (o4 _ (by have := p1 g hg; omega)).2.1) (fun g hg j => by rw [(o4 _ (by have := p1 g hg; omega)).2.2]) (fun g hg h23 _ j => ?_)
        have := p1 g hg
        rw [R4 _ _ (fun e => h23 (hB.1 g 23 hg (by show 23 < 66; omega) e)), (old _ (by omega)).2.2.2]
      obtain ⟨M5, hM5⟩ : ∃ M5, M5 = nt_sI M4 (pl 16) 4 (nI (u + 1)) := ⟨_, rfl⟩
      have hB5 : ly_B pl (fun s => if s = 2 then v 2 + 1 else v s) M5 := by
        rw [hM5]
        refine ly_B_wI (q := (10, 0, 0, 8)) hB4 rfl (by decide) (by rw [nI_toInt (by omega)]; show (0 : Int) ≤ _ ∧ _ ≤ (6 : Int); omega) (fun c hc => ⟨fun z => ?_, fun z => ?_⟩)
        · rw [nI_toInt (by omega)]
          have l := List.all_eq_true.mp (show ly_C.all (fun c => !(Nat.beq c.1.1 16) || sx_leq c.2 (0, [(2, 1)])) = true from by decide +kernel) c hc
          rw [z.1, Bool.or_eq_true] at l
          rcases l with l | l
          · cases l
          · rw [sx_leq_ok l, sx_s_e]
            show v 2 + 1 = _
            omega
        · have l := List.all_eq_true.mp (show ly_C.all (fun c => (Nat.beq c.1.1 16 && sx_leq c.1.2 (4, [])) || c.2.2.all (fun q => !Nat.beq q.1 2)) = true from by decide +kernel) c hc
          rw [Bool.or_eq_true, Bool.and_eq_true] at l
          rcases l with l | l
          · exact absurd ⟨Nat.eq_of_beq_eq_true l.1, sx_leq_ok l.2⟩ z
          · have key : ∀ t : List (Nat × Int), t.all (fun q => !Nat.beq q.1 2) = true → sx_t (fun s => if s = 2 then v 2 + 1 else v s) t = sx_t v t := by
              intro t
              induction t with
              | nil => intro _; rfl
              | cons q t ih =>
                intro ht
                rw [List.all_cons, Bool.and_eq_true, Bool.not_eq_true'] at ht
                show q.2 * (if q.1 = 2 then v 2 + 1 else v q.1) + sx_t _ t = q.2 * v q.1 + sx_t v t
                rw [ih ht.2, if_neg (fun e => by rw [e] at ht; exact absurd ht.1 (by decide))]
            show c.2.1 + sx_t _ c.2.2 = c.2.1 + sx_t v c.2.2
            rw [key _ l]
      have I5 : ∀ p j, p ≠ pl 16 → nt_I M5 p j = nt_I M4 p j := fun p j hp => by
        rw [hM5]
        show (if p = pl 16 then (if j = 4 then nI (u + 1) else nt_I M4 p j) else nt_I M4 p j) = _
        rw [if_neg hp]
      have R5 : nt_R M5 = nt_R M4 := by rw [hM5]; rfl
      have n5 : nt_n M5 = n + 2 := by rw [hM5]; exact n4
      have k5 : ∀ p, nt_k M5 p = nt_k M4 p ∧ nt_l M5 p = nt_l M4 p := fun p => by rw [hM5]; exact ⟨rfl, rfl⟩
      have z5 : nt_z M5 = nt_z M2 + 1 + sz := by rw [hM5, hM4]; exact z3
      have I5n : (nt_I M5 (pl 16) 4) = nI (u + 1) := by
        rw [hM5]
        show (if pl 16 = pl 16 then (if 4 = 4 then nI (u + 1) else nt_I M4 (pl 16) 4) else nt_I M4 (pl 16) 4) = _
        rw [if_pos rfl, if_pos rfl]
      have q17 : nt_I M5 (pl 17) 1 = Int32.ofInt 0 := by
        rw [I5 _ _ (fun e => absurd (hB.1 17 16 (by show 17 < 66; omega) (by show 16 < 66; omega) e) (by decide)), (o4 _ (by have := p1 17 (by omega); omega)).2.2, hM2]
        show (if pl 17 = pl 17 then (if 1 = 1 then Int32.ofInt 0 else nt_I M1 (pl 17) 1) else nt_I M1 (pl 17) 1) = _
        rw [if_pos rfl, if_pos rfl]
      have qo : ∀ p j, p < nt_n M → p ≠ pl 17 → p ≠ pl 16 → nt_I M5 p j = nt_I M1 p j := by
        intro p j hp h17 h16
        have hn0 : nt_n M2 = nt_n M := by rw [hM2]; exact fr.1.1
        rw [I5 _ _ h16, (o4 _ (by omega)).2.2, hM2]
        show (if p = pl 17 then (if j = 1 then Int32.ofInt 0 else nt_I M1 p j) else nt_I M1 p j) = _
        rw [if_neg h17]
      have qr : ∀ k, nt_R M5 (pl 65) k = nt_R M (pl 65) k := by
        intro k
        rw [R5, R4 _ _ n6523, (old _ (by omega)).2.2.2, hM2]
        show nt_R M1 (pl 65) k = _
        exact fr.2.2 65 k (Or.inr rfl)
      have s21 : nt_I M1 (pl 21) 2 = nI sz := Int32.toInt_inj.mp (by rw [nI_toInt (by omega)]; exact hsz)
      have nM : nt_n M = n := by
        rw [← hn, hM2]
        exact fr.1.1.symm
      have q23' : ∀ j, nt_R M5 (pl 23) j = if j = u then some n else nt_R M (pl 23) j := fun j => by
        rw [R5, R423, show nt_R M2 (pl 23) j = nt_R M (pl 23) j from by rw [hM2]; exact fr.2.2 23 j (Or.inl rfl)]
      have ql : nt_l M5 (n + 1) = sz := by
        rw [(k5 _).2, hM4]
        exact kn1.2
      have n2217 : pl 22 ≠ pl 17 := fun e => absurd (hB.1 22 17 (by show 22 < 66; omega) (by show 17 < 66; omega) e) (by decide)
      have qc : ∀ j, j < sz → nt_I M5 (n + 1) j = nt_I M1 (pl 22) j := fun j hj => by
        rw [I5 _ _ (by omega), hM4]
        show nt_I M3 (n + 1) j = _
        rw [cont j hj, hM2]
        show (if pl 22 = pl 17 then (if j = 1 then Int32.ofInt 0 else nt_I M1 (pl 22) j) else nt_I M1 (pl 22) j) = _
        rw [if_neg n2217]
      have qld : ∀ p, p < nt_n M → nt_l M5 p = nt_l M p := fun p hp => by
        rw [(k5 p).2, (o4 p (by omega)).2.1, hM2]
        show nt_l M1 p = _
        exact congrFun fr.1.2.2.2 p
      refine ⟨nI (u + 1) - Int32.ofInt 1, M5, _, head _ ?_, hB5, ?_, fun s _ hs => if_neg hs, by omega, Or.inr ⟨c6, x, M1, k1, q17, qo, qr, Or.inr ⟨x0, if_pos rfl, u, hu, rfl, sz, n, by omega, s21, by omega, by omega, q23', ql, qc, qld⟩⟩⟩
      · refine nt_rn_b 2 (c' := (if x = 0 then 36 else 31, [(1, .int x), (0, .ref (pl 16))], [], M2)) rfl ?_
        rw [if_pos x0]
        refine nt_rn_b 1 (c' := (37, [(1, .int x), (0, .ref (pl 16))], [.ref (pl 16)], M2)) rfl ?_
        refine nt_rn_s (c' := (40, [(1, .int x), (0, .ref (pl 16))], [.ref (pl 23)], M2)) (e := (37, .getfield 39, 1003, 0)) rfl rfl (nt_x_get (c := 10) (v := .ref (pl 23)) G16.1 G16.2.1 rfl (nt_gfR rfl r23)) ?_
        refine nt_rn_b 1 (c' := (41, [(1, .int x), (0, .ref (pl 16))], [.ref (pl 16), .ref (pl 23)], M2)) rfl ?_
        refine nt_rn_s (c' := (44, [(1, .int x), (0, .ref (pl 16))], [.int (nI u), .ref (pl 23)], M2)) (e := (41, .getfield 98, 1004, 0)) rfl rfl (nt_x_get (c := 10) (v := .int (nI u)) G16.1 G16.2.1 rfl (by show Value.int (nt_I M2 (pl 16) 4) = _; rw [rcI])) ?_
        refine nt_rn_b 1 (c' := (45, [(1, .int x), (0, .ref (pl 16))], [.ref (pl 16), .int (nI u), .ref (pl 23)], M2)) rfl ?_
        refine nt_rn_s (c' := (48, [(1, .int x), (0, .ref (pl 16))], [.ref (pl 21), .int (nI u), .ref (pl 23)], M2)) (e := (45, .getfield 33, 1002, 0)) rfl rfl (nt_x_get (c := 10) (v := .ref (pl 21)) G16.1 G16.2.1 rfl (nt_gfR rfl r21)) ?_
        refine nt_rn_c (g := 62) (q := 1) (vs := [.ref (pl 21)]) (rest := [.int (nI u), .ref (pl 23)]) (e := (48, .invokevirtual 104, 62, 0)) rfl rfl (Or.inr (Or.inl ⟨_, rfl, rfl⟩)) rfl (fun _ => nt_rcI G21.1 G21.2.1) (fun h => by cases h) hmade ?_
        refine nt_rn_s (c' := (52, [(1, .int x), (0, .ref (pl 16))], [], M4)) (e := (51, .aastore, 0, 0)) rfl rfl ?_ ?_
        · have k23 : nt_k M3 (pl 23) = 16 := by rw [(old _ (by omega)).1]; exact G23.2.1
          show (if n < nt_n M3 ∧ (nt_k M3 (pl 23) = 16 ∧ nt_k M3 n = 4 ∨ nt_k M3 (pl 23) = 17 ∧ nt_k M3 n = 6) then nt_in M3 (pl 23) (nt_k M3 (pl 23)) (nI u) (some (52, _, [], nt_sR M3 (pl 23) (nI u).toNatClampNeg (some n))) else none) = _
          rw [if_pos ⟨by omega, Or.inl ⟨k23, kn.1⟩⟩, nt_inI (i := u) (by omega) rfl rfl (by rw [(old _ (by omega)).2.1, l23]; omega) (by rw [(old _ (by omega)).2.1, l23]; decide), nI_clamp (by omega), hM4]
        · have k416 : nt_k M4 (pl 16) = 10 := by rw [(o4 _ (by omega)).1]; exact G16.2.1
          have k516 : nt_k M5 (pl 16) = 10 := by rw [(k5 _).1]; exact k416
          refine nt_rn_b 2 (c' := (54, [(1, .int x), (0, .ref (pl 16))], [.ref (pl 16), .ref (pl 16)], M4)) rfl ?_
          refine nt_rn_s (c' := (57, [(1, .int x), (0, .ref (pl 16))], [.int (nI u), .ref (pl 16)], M4)) (e := (54, .getfield 98, 1004, 0)) rfl rfl (nt_x_get (c := 10) (v := .int (nI u)) (show pl 16 < nt_n M4 by omega) k416 rfl (by show Value.int (nt_I M4 (pl 16) 4) = _; rw [(o4 _ (by omega)).2.2, rcI])) ?_
          refine nt_rn_b 2 (c' := (59, [(1, .int x), (0, .ref (pl 16))], [.int (nI u + Int32.ofInt 1), .ref (pl 16)], M4)) rfl ?_
          rw [show nI u + Int32.ofInt 1 = nI (u + 1) from nI_1 u]
          refine nt_rn_s (c' := (62, [(1, .int x), (0, .ref (pl 16))], [], M5)) (e := (59, .putfield 98, 1004, 0)) rfl rfl (nt_x_put (c := 10) (M' := M5) (show pl 16 < nt_n M4 by omega) k416 rfl (by rw [hM5]; rfl)) ?_
          refine nt_rn_b 1 (c' := (63, [(1, .int x), (0, .ref (pl 16))], [.ref (pl 16)], M5)) rfl ?_
          refine nt_rn_s (c' := (66, [(1, .int x), (0, .ref (pl 16))], [.int (nI (u + 1))], M5)) (e := (63, .getfield 98, 1004, 0)) rfl rfl (nt_x_get (c := 10) (v := .int (nI (u + 1))) (show pl 16 < nt_n M5 by omega) k516 rfl (by show Value.int (nt_I M5 (pl 16) 4) = _; rw [I5n])) ?_
          refine nt_rn_b 2 (c' := (68, [(1, .int x), (0, .ref (pl 16))], [.int (nI (u + 1) - Int32.ofInt 1)], M5)) rfl ?_
          exact nt_rn_ri (e := (68, .ireturn, 0, 0)) rfl rfl rfl rfl rfl
      · show ly_S pl mk xi (v 2 + 1) M5
        have blk : ∀ p, p < n → p ≠ pl 16 → p ≠ pl 23 → nt_k M5 p = nt_k M2 p ∧ nt_l M5 p = nt_l M2 p ∧ (∀ j, nt_I M5 p j = nt_I M2 p j) ∧ ∀ j, nt_R M5 p j = nt_R M2 p j := fun p hp h16 h23 => ⟨(k5 p).1.trans (o4 p hp).1, (k5 p).2.trans (o4 p hp).2.1, fun j => by rw [I5 p j h16, (o4 p hp).2.2], fun j => by rw [R5, R4 p j h23, (old p hp).2.2.2]⟩
        refine ⟨⟨p1, p2, p3, by omega⟩, ⟨by omega, by omega⟩, (fun p => if n ≤ p then 4 + u else T p), fun k' hk' => ?_, fun w hw => ?_⟩
        · rw [R5, R4 _ _ n6523, (old _ (by omega)).2.2.2]
          rcases p7 k' hk' with c | ⟨a, c1, c2, c3, c4, c5, c6'⟩
          · exact Or.inl c
          · rw [hn] at c4
            refine Or.inr ⟨a, c1, c2, c3, by omega, fun i hi => ?_, ?_⟩
            · show (if n ≤ a + i then 4 + u else T (a + i)) = k'
              rw [if_neg (by omega)]
              exact c5 i hi
            · obtain ⟨g1, g2, g3⟩ := c6'
              refine ⟨fun h q hq => ?_, fun q hq => ?_, ?_⟩
              · have hh : h < 17 := (List.getElem?_eq_some_iff.mp hq).1
                have o := blk (a + h) (by omega) (by omega) (by omega)
                have g := g1 h q hq
                rw [o.1, o.2.1]
                refine ⟨by omega, g.2.1, g.2.2.1, g.2.2.2.1, fun i => ?_⟩
                rw [o.2.2.1 i]
                exact g.2.2.2.2 i
              · have h17 := Nat.blt_eq.mp (List.all_eq_true.mp ly_RI_lt q hq)
                rw [(blk (a + (q.1.1 - 66)) (by omega) (by omega) (by omega)).2.2.2]
                exact g2 q hq
              · rw [(blk a (by omega) (by omega) (by omega)).2.2.1]
                exact g3
        · rw [R5, R423]
          by_cases ew : w = u
          · rw [if_pos ew]
            refine ⟨n, rfl, p4, by omega, ?_, ?_, fun h q hq => ?_, ?_⟩
            · show (if n ≤ n then 4 + u else T n) = 4 + w
              rw [if_pos (Nat.le_refl n), ew]
            · show (if n ≤ n + 1 then 4 + u else T (n + 1)) = 4 + w
              rw [if_pos (by omega), ew]
            · have kk : ∀ p, p ≠ pl 16 → nt_k M5 p = nt_k M3 p ∧ nt_l M5 p = nt_l M3 p := fun p _ => by rw [hM5, hM4]; exact ⟨rfl, rfl⟩
              rcases (by
                have hh : h < 2 := (List.getElem?_eq_some_iff.mp hq).1
                omega : h = 0 ∨ h = 1) with rfl | rfl
              · cases hq
                rw [(kk (n + 0) (by omega)).1, (kk (n + 0) (by omega)).2]
                have a1 : nt_k M3 (n + 0) = 4 := kn.1
                have a2 : nt_l M3 (n + 0) = 0 := kn.2
                rw [a1, a2]
                refine ⟨by omega, rfl, ⟨by decide, by decide⟩, by decide, fun i => ?_⟩
                have l1 := (nt_I M5 (n + 0) i).le_toInt
                have l2 := (nt_I M5 (n + 0) i).toInt_lt
                show (-2147483648 : Int) ≤ _ ∧ _ ≤ (2147483647 : Int)
                omega
              · cases hq
                rw [(kk (n + 1) (by omega)).1, (kk (n + 1) (by omega)).2, kn1.1, kn1.2]
                refine ⟨by omega, rfl, ⟨by dsimp only; omega, by dsimp only; omega⟩, by omega, fun i => ?_⟩
                have l1 := (nt_I M5 (n + 1) i).le_toInt
                have l2 := (nt_I M5 (n + 1) i).toInt_lt
                show (-2147483648 : Int) ≤ _ ∧ _ ≤ (2147483647 : Int)
                omega
            · rw [R5, R4 _ _ (by omega)]
              exact rn
          · rw [if_neg ew]
            obtain ⟨b, c1, c2, c3, c4, c5, c6', c7⟩ := p8 w (by omega)
            rw [hn] at c3
            refine ⟨b, c1, c2, by omega, by show (if n ≤ b then 4 + u else T b) = _; rw [if_neg (by omega)]; exact c4, by show (if n ≤ b + 1 then 4 + u else T (b + 1)) = _; rw [if_neg (by omega)]; exact c5, fun h q hq => ?_, ?_⟩
            · have hh : h < 2 := (List.getElem?_eq_some_iff.mp hq).1
              have o := blk (b + h) (by omega) (by omega) (by omega)
              have g := c6' h q hq
              rw [o.1, o.2.1]
              refine ⟨by omega, g.2.1, g.2.2.1, g.2.2.2.1, fun i => ?_⟩
              rw [o.2.2.1 i]
              exact g.2.2.2.2 i
            · rw [(blk b (by omega) (by omega) (by omega)).2.2.2]
              exact c7
    · have q17 : nt_I M2 (pl 17) 1 = Int32.ofInt 0 := by
        rw [hM2]
        show (if pl 17 = pl 17 then (if 1 = 1 then Int32.ofInt 0 else nt_I M1 (pl 17) 1) else nt_I M1 (pl 17) 1) = _
        rw [if_pos rfl, if_pos rfl]
      have qo : ∀ p j, p < nt_n M → p ≠ pl 17 → p ≠ pl 16 → nt_I M2 p j = nt_I M1 p j := by
        intro p j hp h17 h16
        rw [hM2]
        show (if p = pl 17 then (if j = 1 then Int32.ofInt 0 else nt_I M1 p j) else nt_I M1 p j) = _
        rw [if_neg h17]
      have qr : ∀ k, nt_R M2 (pl 65) k = nt_R M (pl 65) k := by
        intro k
        rw [hM2]
        show nt_R M1 (pl 65) k = _
        exact fr.2.2 65 k (Or.inr rfl)
      refine ⟨Int32.ofInt (-2) - x, M2, v, head _ ?_, hB2, hS2, fun _ _ _ => rfl, by rw [hM2]; exact Nat.le_of_eq fr.1.1.symm, Or.inr ⟨c6, x, M1, k1, q17, qo, qr, Or.inl ⟨x0, rfl, rfl, fun j => by rw [hM2]; exact fr.2.2 23 j (Or.inl rfl), fun p => by rw [hM2]; exact congrFun fr.1.2.2.2 p⟩⟩⟩
      refine nt_rn_b 2 (c' := (if x = 0 then 36 else 31, [(1, .int x), (0, .ref (pl 16))], [], M2)) rfl ?_
      rw [if_neg x0]
      refine nt_rn_b 3 (c' := (35, [(1, .int x), (0, .ref (pl 16))], [.int (Int32.ofInt (-2) - x)], M2)) rfl ?_
      exact nt_rn_ri (e := (35, .ireturn, 0, 0)) rfl rfl rfl rfl rfl
  · refine ⟨Int32.ofInt (-1), M, v, ?_, hB, hS, fun _ _ _ => rfl, Nat.le_refl _, Or.inl ⟨by omega, rfl, rfl⟩⟩
    refine nt_rn_b 1 (c' := (1, [(0, .ref (pl 16))], [.ref (pl 16)], M)) rfl ?_
    refine nt_rn_s (c' := (4, [(0, .ref (pl 16))], [.int (nt_I M (pl 16) 4)], M)) (e := (1, .getfield 98, 1004, 0)) rfl rfl (nt_x_get (c := 10) (v := .int (nt_I M (pl 16) 4)) g16.1 g16.2.1 rfl rfl) ?_
    refine nt_rn_b 2 (c' := (if nt_I M (pl 16) 4 < Int32.ofInt 6 then 11 else 9, [(0, .ref (pl 16))], [], M)) rfl ?_
    rw [if_neg (by rw [sx_lt32, rc0, e6]; exact c6)]
    refine nt_rn_b 1 (c' := (10, [(0, .ref (pl 16))], [.int (Int32.ofInt (-1))], M)) rfl ?_
    exact nt_rn_ri (e := (10, .ireturn, 0, 0)) rfl rfl rfl rfl rfl
