/-! the class: an image that is not there is made -/
theorem ly_rev {X : nt_X} {d mi : Nat} {c c' : nt_C} {o : Option Value × nt_M} {e : Nat × Instr × Nat × Nat} (hat : nt_at mi c.1 = some e) (hp : nt_pl e.2.1 = true) (hs : nt_sx X mi e.2.2.1 e.2.2.2 e.2.1 c.1 c.2.1 c.2.2.1 c.2.2.2 = some c') (k : nt_rn X d mi c o) : nt_rn X d mi c' o := by
  obtain ⟨f, hf⟩ := k
  cases f with
  | zero => cases hf
  | succ f =>
    unfold nt_ex at hf
    rw [hat] at hf
    have hf : nt_ei (nt_ex X f) X d mi e c = some o := hf
    rw [nt_ei_pl hp hs] at hf
    exact ⟨f, hf⟩
theorem ly_revb {X : nt_X} {d mi : Nat} {o : Option Value × nt_M} : ∀ (n : Nat) {c c' : nt_C}, nt_bk X mi n c = some c' → nt_rn X d mi c o → nt_rn X d mi c' o
  | 0, c, c', h, k => by cases h; exact k
  | n + 1, c, c', h, k => by
    unfold nt_bk at h
    split at h
    · rename_i e he
      cases hp : nt_pl e.2.1 with
      | false => rw [hp] at h; cases h
      | true =>
        rw [hp] at h
        have h : (match nt_sx X mi e.2.2.1 e.2.2.2 e.2.1 c.1 c.2.1 c.2.2.1 c.2.2.2 with
          | some c' => nt_bk X mi n c'
          | none => none) = some c' := h
        split at h
        · rename_i c1 hs
          exact ly_revb n h (ly_rev he hp hs k)
        · cases h
    · cases h
theorem ly_ghp {pl pl' : Nat → Nat} {M M' : nt_M} {i : Int} (h : ∀ g, g = 1 ∨ g = 2 ∨ g = 3 → ∀ j, nt_I M' (pl' g) j = nt_I M (pl g) j) : nt_ghost 0 (fun h j => nt_I M' (pl' h) j) i = nt_ghost 0 (fun h j => nt_I M (pl h) j) i := by
  refine ly_gh (E := ly_E) (F := (pl, M, fun _ => 0, nt_ghost)) rfl rfl 0 _ _ _ ?_
  intro g hh j hj
  refine h g ?_ j
  rcases List.mem_cons.mp hh with e | hh
  · exact Or.inl e
  rcases List.mem_cons.mp hh with e | hh
  · exact Or.inr (Or.inl e)
  · exact Or.inr (Or.inr (List.mem_singleton.mp hh))
/-- what is known stands if the regions are as they were -/
theorem ly_B_eq {pl : Nat → Nat} {v : Nat → Int} {M M' : nt_M} (hB : ly_B pl v M) (hn : nt_n M ≤ nt_n M') (hs : nt_n M' ≤ nt_sp) (hk : ∀ g, g < 66 → nt_k M' (pl g) = nt_k M (pl g)) (hl : ∀ g, g < 66 → nt_l M' (pl g) = nt_l M (pl g)) (hI : ∀ g, g < 66 → ∀ j, nt_I M' (pl g) j = nt_I M (pl g) j) (hR : ∀ g, g < 66 → g ≠ 23 → g ≠ 65 → ∀ j, nt_R M' (pl g) j = nt_R M (pl g) j) : ly_B pl v M' := by
  obtain ⟨b1, b2, b3, b4⟩ := hB
  refine ⟨b1, ⟨hs, fun g q hq => ?_⟩, fun q hq => ?_, fun q hq => ?_⟩
  · have hg : g < 66 := (List.getElem?_eq_some_iff.mp hq).1
    have := b2.2 g q hq
    rw [hk g hg, hl g hg]
    refine ⟨by omega, this.2.1, this.2.2.1, this.2.2.2.1, fun j => ?_⟩
    rw [hI g hg j]
    exact this.2.2.2.2 j
  · have h := b3 q hq
    refine ⟨h.1, ?_⟩
    rw [← h.2]
    have hq2 := List.all_eq_true.mp (show ly_C.all (fun q => Nat.blt q.1.1 66 && (sx_lw 0 q.1.2 && decide (0 ≤ q.1.2.1)) || Nat.beq q.1.1 100) = true from by decide +kernel) q hq
    rw [Bool.or_eq_true, Bool.and_eq_true, Bool.and_eq_true] at hq2
    unfold sx_rd
    dsimp only
    rcases hq2 with ⟨c, c1, c2⟩ | c2
    · have c := Nat.blt_eq.mp c
      have c2 := of_decide_eq_true c2
      rw [if_neg (show ¬ 100 ≤ q.1.1 by omega), if_neg (show ¬ 100 ≤ q.1.1 by omega), ly_lw0 c1, if_neg (by omega), if_neg (by omega), hI _ c]
    · rw [Nat.eq_of_beq_eq_true c2, if_pos (by decide), if_pos (by decide)]
      exact ly_ghp (fun g hg j => hI g (by omega) j)
  · have l := List.all_eq_true.mp (show ly_R.all (fun q => Nat.blt q.1.1 66 && (!Nat.beq q.1.1 23 && !Nat.beq q.1.1 65)) = true from by decide +kernel) q hq
    rw [Bool.and_eq_true, Bool.and_eq_true, Bool.not_eq_true', Bool.not_eq_true'] at l
    have l1 := Nat.blt_eq.mp l.1
    obtain ⟨h1, h2, h3⟩ := b4 q hq
    refine ⟨h1, h2, ?_⟩
    rw [hR _ l1 (fun e => by rw [e] at l; exact absurd l.2.1 (by decide)) (fun e => by rw [e] at l; exact absurd l.2.2 (by decide))]
    exact h3
theorem ly_tab0 : sx_tbs.all (fun T => T.all (fun q => q.2.all (fun b => decide (b.1 ≤ 0) && decide (0 ≤ b.2)))) = true := by decide +kernel
/-- 0 lies in all bounds -/
theorem ly_iv0 (t j : Nat) : (sx_iv (sx_tbs.getD t []) j).1 ≤ 0 ∧ 0 ≤ (sx_iv (sx_tbs.getD t []) j).2 := by
  rcases List.mem_cons.mp (sx_iv_in (sx_tbs.getD t []) j) with e | h
  · rw [e]
    decide
  · obtain ⟨q, hq, hb⟩ := List.mem_flatMap.mp h
    have hT : sx_tbs.getD t [] ∈ sx_tbs := by
      by_cases c : t < sx_tbs.length
      · rw [List.getD_eq_getElem?_getD, List.getElem?_eq_getElem c]
        exact List.getElem_mem c
      · rw [List.getD_eq_getElem?_getD, List.getElem?_eq_none (by omega)] at hq
        cases hq
    have l := List.all_eq_true.mp (List.all_eq_true.mp (List.all_eq_true.mp ly_tab0 _ hT) q hq) _ hb
    rw [Bool.and_eq_true, decide_eq_true_eq, decide_eq_true_eq] at l
    exact l
theorem ly_so_k : (List.range 17).all (fun h => (match ly_ED[h]?, ly_kl ly_so h with | some q, some p => Nat.beq q.1 p.1 && (decide (q.2.1 ≤ (p.2 : Int)) && (decide ((p.2 : Int) ≤ q.2.2.1) && Nat.blt p.2 2147483648)) | _, _ => false)) = true := by decide +kernel
theorem ly_so_r : ly_RI.all (fun q => (match ly_rl ly_so (q.1.1 - 66) q.1.2.1.toNat with | some b => Nat.beq b (q.2 - 67) | none => false)) = true := by decide +kernel
/-- a state just made is an image -/
theorem ly_im_new0 {n a j : Nat} {M1 : nt_M} {b : Option Nat} (ha : a < n) (hc : nt_n M1 = n + 17) (fk : ∀ i q, ly_kl ly_so i = some q → nt_k M1 (n + i) = q.1 ∧ nt_l M1 (n + i) = q.2) (fI : ∀ i, i < 17 → ∀ j, nt_I M1 (n + i) j = 0) (fR : ∀ i, i < 17 → ∀ j, nt_R M1 (n + i) j = (ly_rl ly_so i j).map (fun b => n + b)) : ly_im n 0 (nt_sR M1 a j b) := by
  refine ⟨fun h q hq => ?_, fun q hq => ?_, ?_⟩
  · have hh : h < 17 := (List.getElem?_eq_some_iff.mp hq).1
    have l := List.all_eq_true.mp ly_so_k h (List.mem_range.mpr hh)
    rw [hq] at l
    cases hk : ly_kl ly_so h with
    | none => rw [hk] at l; cases l
    | some p =>
      rw [hk] at l
      dsimp only at l
      rw [Bool.and_eq_true, Bool.and_eq_true, Bool.and_eq_true, decide_eq_true_eq, decide_eq_true_eq] at l
      obtain ⟨l1, l2, l3, l4⟩ := l
      have l1 := Nat.eq_of_beq_eq_true l1
      have l4 := Nat.blt_eq.mp l4
      have f := fk h p hk
      have hI := fI h hh
      show n + h < nt_n M1 ∧ nt_k M1 (n + h) = q.1 ∧ (q.2.1 ≤ (nt_l M1 (n + h) : Int) ∧ (nt_l M1 (n + h) : Int) ≤ q.2.2.1) ∧ nt_l M1 (n + h) < 2147483648 ∧ ∀ i, (sx_iv (sx_tbs.getD q.2.2.2 []) i).1 ≤ (nt_I M1 (n + h) i).toInt ∧ (nt_I M1 (n + h) i).toInt ≤ (sx_iv (sx_tbs.getD q.2.2.2 []) i).2
      rw [f.1, f.2]
      refine ⟨by omega, l1.symm, ⟨l2, l3⟩, l4, fun i => ?_⟩
      rw [hI i]
      exact ly_iv0 _ i
  · have l := List.all_eq_true.mp ly_so_r q hq
    cases hr : ly_rl ly_so (q.1.1 - 66) q.1.2.1.toNat with
    | none => rw [hr] at l; cases l
    | some b' =>
      rw [hr] at l
      have l := Nat.eq_of_beq_eq_true l
      have h17 := Nat.blt_eq.mp (List.all_eq_true.mp ly_RI_lt q hq)
      have f := fR (q.1.1 - 66) h17 q.1.2.1.toNat
      rw [hr] at f
      show (if n + (q.1.1 - 66) = a then (if q.1.2.1.toNat = j then b else nt_R M1 (n + (q.1.1 - 66)) q.1.2.1.toNat) else nt_R M1 (n + (q.1.1 - 66)) q.1.2.1.toNat) = _
      rw [if_neg (by omega), f, ← l]
      rfl
  · have hI := fI 0 (by omega) 6
    rw [Nat.add_zero] at hI
    show (nt_I M1 n 6).toInt = 0
    rw [hI]
    rfl
theorem ly_so_c : ly_cnt ly_so = 17 := by decide +kernel
theorem ly_so_z : ly_zs ly_so = 253 := by decide +kernel
theorem ly_im_new {n a j : Nat} {M M1 : nt_M} {b : Option Nat} (hn : nt_n M = n) (ha : a < n) (h1 : M1 = ly_fo n M ly_so) : ly_im n 0 (nt_sR M1 a j b) := by
  refine ly_im_new0 ha (by rw [h1, ly_fo_n, hn, ly_so_c]) (fun i q h => ?_) (fun i hi j => ?_) (fun i hi j => ?_)
  · rw [h1]
    exact ly_fo_k hn h
  · rw [h1]
    exact ly_fo_I hn ly_so (by rw [ly_so_c]; exact hi) j
  · rw [h1]
    exact ly_fo_R hn ly_so (by rw [ly_so_c]; exact hi) j
/-- THE IMAGE that is not there -/
theorem ly_imgN {X : nt_X} {K : sx_K} {pl : Nat → Nat} {v mk xi : Nat → Int} {M : nt_M} {d k : Nat} {mo : List (Nat × Int × Int)} (hK : sx_KOK X (sx_tbs, sx_gps) K) (hKe : K = (127, 3, ly_D ++ ly_ED, (mo, []), [(2, 16, (0, [])), (0, 0, ((k : Int), []))], (ly_C ++ [((66, (6, [])), (0, [(11, 1)]))], ly_R ++ (((65, ((k : Int), [])), 67) :: ly_RI), (ly_b ++ [(11, -2147483648, 2147483647)], []), 12), [(some (0, 0, (0, [(12, 1)])), (ly_C ++ [((66, (6, [])), (0, [(1, 1)]))], ly_R ++ (((65, ((k : Int), [])), 67) :: ly_RI), ([(12, -2147483648, 2147483647)], []), 13))])) (hmo : mo.all (lq_b 83) = true) (hk : k < 4) (hB : ly_B pl v M) (hS : ly_S pl mk xi (v 2) M) (hm : mk k = 0) : ∃ (y : Int32) (M' : nt_M), nt_ev X (d + 3) 127 [.ref (pl 16), .int (nI k)] M (some (.int y), M') ∧ lq_T pl M M' ∧ lq_I X pl v (d + 3) k y M M' ∧ ly_B pl v M' ∧ ly_S pl (fun i => if i = k then 1 else mk i) (fun i => if i = k then v 1 else xi i) (v 2) M' := by
  obtain ⟨⟨p1, p2, p3, p4⟩, ⟨p5, p6⟩, T, p7, p8⟩ := id hS
  have hv2 := ly_ob hB (2, 0, 6) (List.mem_of_getElem? (i := 2) rfl)
  dsimp only at hv2
  have mk01 : ∀ i, i < 4 → 0 ≤ mk i ∧ mk i ≤ 1 := by
    intro i hi
    rcases p7 i hi with ⟨_, c⟩ | ⟨a, _, c, _⟩ <;> omega
  have m0 := mk01 0 (by omega)
  have m1 := mk01 1 (by omega)
  have m2 := mk01 2 (by omega)
  have m3 := mk01 3 (by omega)
  obtain ⟨n, hn⟩ : ∃ n, nt_n M = n := ⟨_, rfl⟩
  rw [hn] at p4 p5
  have hnb : n + 20 < nt_sp := by show n + 20 < 3000; omega
  have hnone : nt_R M (pl 65) k = none := by
    rcases p7 k hk with ⟨c, _⟩ | ⟨a, _, c, _⟩
    · exact c
    · omega
  obtain ⟨M1, hM1⟩ : ∃ M1, M1 = ly_fo n M ly_so := ⟨_, rfl⟩
  have n1 : nt_n M1 = n + 17 := by rw [hM1, ly_fo_n, hn, ly_so_c]
  have z1 : nt_z M1 = nt_z M + 253 := by rw [hM1, ly_fo_z, ly_so_z]
  have old : ∀ p, p < n → nt_k M1 p = nt_k M p ∧ nt_l M1 p = nt_l M p ∧ nt_I M1 p = nt_I M p ∧ nt_R M1 p = nt_R M p := fun p hp => by
    rw [hM1]
    exact ly_fo_old hn hp ly_so
  have q65 := p1 65 (by omega)
  have q16 := p1 16 (by omega)
  have q23 := p1 23 (by omega)
  have rR : ∀ p j, p ≠ pl 65 → nt_R (nt_sR M1 (pl 65) k (some n)) p j = nt_R M1 p j := fun p j hp => by
    show (if p = pl 65 then (if j = k then some n else nt_R M1 p j) else nt_R M1 p j) = _
    rw [if_neg hp]
  have r65 : ∀ j, nt_R (nt_sR M1 (pl 65) k (some n)) (pl 65) j = if j = k then some n else nt_R M (pl 65) j := fun j => by
    show (if pl 65 = pl 65 then (if j = k then some n else nt_R M1 (pl 65) j) else nt_R M1 (pl 65) j) = _
    rw [if_pos rfl, (old _ (by omega)).2.2.2]
  have hB2 : ly_B pl v (nt_sR M1 (pl 65) k (some n)) := by
    refine ly_B_eq hB (by show nt_n M ≤ nt_n M1; omega) (by show nt_n M1 ≤ 3000; have : nt_sp = 3000 := rfl; omega) (fun g hg => ?_) (fun g hg => ?_) (fun g hg j => ?_) (fun g hg _ h65 j => ?_)
    · have := p1 g hg
      exact (old _ (by omega)).1
    · have := p1 g hg
      exact (old _ (by omega)).2.1
    · have := p1 g hg
      show nt_I M1 (pl g) j = _
      rw [(old _ (by omega)).2.2.1]
    · have := p1 g hg
      rw [rR _ _ (fun e => h65 (hB.1 g 65 hg (by show 65 < 66; omega) e)), (old _ (by omega)).2.2.2]
  have hS2 : ly_S pl (fun i => if i = k then 1 else mk i) (fun i => if i = k then 0 else xi i) (v 2) (nt_sR M1 (pl 65) k (some n)) := by
    have hsum : ((if (0 : Nat) = k then (1 : Int) else mk 0) + (if (1 : Nat) = k then (1 : Int) else mk 1) + (if (2 : Nat) = k then (1 : Int) else mk 2) + (if (3 : Nat) = k then (1 : Int) else mk 3)) = mk 0 + mk 1 + mk 2 + mk 3 + 1 := by
      rcases (by omega : k = 0 ∨ k = 1 ∨ k = 2 ∨ k = 3) with rfl | rfl | rfl | rfl
      · show (1 : Int) + mk 1 + mk 2 + mk 3 = _; omega
      · show mk 0 + (1 : Int) + mk 2 + mk 3 = _; omega
      · show mk 0 + mk 1 + (1 : Int) + mk 3 = _; omega
      · show mk 0 + mk 1 + mk 2 + (1 : Int) = _; omega
    refine ⟨⟨p1, p2, p3, by show 66 ≤ nt_n M1; omega⟩, ⟨?_, ?_⟩, (fun p => if n ≤ p then k else T p), fun k' hk' => ?_, fun u hu => ?_⟩
    · show (nt_n M1 : Int) ≤ 66 + 17 * ((if (0 : Nat) = k then (1 : Int) else mk 0) + (if (1 : Nat) = k then (1 : Int) else mk 1) + (if (2 : Nat) = k then (1 : Int) else mk 2) + (if (3 : Nat) = k then (1 : Int) else mk 3)) + 2 * v 2
      rw [hsum]
      omega
    · show (nt_z M1 : Int) ≤ 20000 + 400 * ((if (0 : Nat) = k then (1 : Int) else mk 0) + (if (1 : Nat) = k then (1 : Int) else mk 1) + (if (2 : Nat) = k then (1 : Int) else mk 2) + (if (3 : Nat) = k then (1 : Int) else mk 3)) + 500 * v 2
      rw [hsum]
      omega
    · rw [r65]
      by_cases e : k' = k
      · refine Or.inr ⟨n, if_pos e, if_pos e, p4, by show n + 17 ≤ nt_n M1; omega, fun i hi => ?_, ?_⟩
        · show (if n ≤ n + i then k else T (n + i)) = k'
          rw [if_pos (by omega), e]
        · show ly_im n (if k' = k then 0 else xi k') _
          rw [if_pos e]
          exact ly_im_new hn (by omega) hM1
      · rw [if_neg e]
        show (_ ∧ (if k' = k then (1 : Int) else mk k') = 0) ∨ ∃ a, _ ∧ (if k' = k then (1 : Int) else mk k') = 1 ∧ _ ∧ _ ∧ _ ∧ ly_im a (if k' = k then 0 else xi k') _
        rw [if_neg e, if_neg e]
        rcases p7 k' hk' with c | ⟨a, c1, c2, c3, c4, c5, c6⟩
        · exact Or.inl c
        · rw [hn] at c4
          refine Or.inr ⟨a, c1, c2, c3, by show a + 17 ≤ nt_n M1; omega, fun i hi => ?_, ?_⟩
          · show (if n ≤ a + i then k else T (a + i)) = k'
            rw [if_neg (by omega)]
            exact c5 i hi
          · obtain ⟨g1, g2, g3⟩ := c6
            refine ⟨fun h q hq => ?_, fun q hq => ?_, ?_⟩
            · have hh : h < 17 := (List.getElem?_eq_some_iff.mp hq).1
              have o := old (a + h) (by omega)
              have g := g1 h q hq
              show a + h < nt_n M1 ∧ nt_k M1 (a + h) = q.1 ∧ (q.2.1 ≤ (nt_l M1 (a + h) : Int) ∧ (nt_l M1 (a + h) : Int) ≤ q.2.2.1) ∧ nt_l M1 (a + h) < 2147483648 ∧ ∀ i, (sx_iv (sx_tbs.getD q.2.2.2 []) i).1 ≤ (nt_I M1 (a + h) i).toInt ∧ (nt_I M1 (a + h) i).toInt ≤ (sx_iv (sx_tbs.getD q.2.2.2 []) i).2
              rw [o.1, o.2.1, o.2.2.1]
              exact ⟨by omega, g.2⟩
            · have h17 := Nat.blt_eq.mp (List.all_eq_true.mp ly_RI_lt q hq)
              rw [rR _ _ (by omega), (old _ (by omega)).2.2.2]
              exact g2 q hq
            · show (nt_I M1 a 6).toInt = _
              rw [(old a (by omega)).2.2.1]
              exact g3
    · obtain ⟨b, c1, c2, c3, c4, c5, c6, c7⟩ := p8 u hu
      rw [hn] at c3
      have n23 : pl 23 ≠ pl 65 := fun e => absurd (hB.1 23 65 (by show 23 < 66; omega) (by show 65 < 66; omega) e) (by decide)
      rw [rR _ _ n23, (old _ (by omega)).2.2.2]
      refine ⟨b, c1, c2, by show b + 2 ≤ nt_n M1; omega, by show (if n ≤ b then k else T b) = _; rw [if_neg (by omega)]; exact c4, by show (if n ≤ b + 1 then k else T (b + 1)) = _; rw [if_neg (by omega)]; exact c5, fun h q hq => ?_, ?_⟩
      · have hh : h < 2 := (List.getElem?_eq_some_iff.mp hq).1
        have o := old (b + h) (by omega)
        have g := c6 h q hq
        show b + h < nt_n M1 ∧ nt_k M1 (b + h) = q.1 ∧ (q.2.1 ≤ (nt_l M1 (b + h) : Int) ∧ (nt_l M1 (b + h) : Int) ≤ q.2.2.1) ∧ nt_l M1 (b + h) < 2147483648 ∧ ∀ i, (sx_iv (sx_tbs.getD q.2.2.2 []) i).1 ≤ (nt_I M1 (b + h) i).toInt ∧ (nt_I M1 (b + h) i).toInt ≤ (sx_iv (sx_tbs.getD q.2.2.2 []) i).2
        rw [o.1, o.2.1, o.2.2.1]
        exact ⟨by omega, g.2⟩
      · rw [rR _ _ (by omega), (old _ (by omega)).2.2.2]
        exact c7
  obtain ⟨y, M', hev, hq3, hI3, hB3, hS3⟩ := ly_imgC (d := d + 3) hK hKe hmo hk (by omega) hB2 hS2 (by show (if k = k then (1 : Int) else mk k) = 1; rw [if_pos rfl])
  refine ⟨y, M', ?_, fun g j hc => (hq3 g j hc).trans (by have := p1 g (lq_c66 hc); show nt_I M1 (pl g) j = _; rw [(old _ (by omega)).2.2.1]), ?_, hB3, ?_⟩
  · have g16 := hB.2.1.2 16 _ (show ly_E.2.1[16]? = some (10, 0, 0, 8) from rfl)
    have g65 := hB.2.1.2 65 _ (show ly_E.2.1[65]? = some (17, 4, 4, 0) from rfl)
    have rimg := (hB.2.2.2 ((16, (9, [])), 66) (List.mem_of_getElem? (i := 8) rfl)).2.2
    dsimp only at rimg
    rw [sx_c_e] at rimg
    have rimg : nt_R M (pl 16) 9 = some (pl 65) := rimg
    have l65 : nt_l M (pl 65) = 4 := by have := g65.2.2.1; dsimp only at this; omega
    have n16 : pl 16 ≠ pl 65 := fun e => absurd (hB.1 16 65 (by show 16 < 66; omega) (by show 65 < 66; omega) e) (by decide)
    have kk0 : ¬ nI k < 0 := nI_pos (by omega)
    have kk4 : nI k < Int32.ofInt 4 := nI_lt (b := 4) hk (by omega)
    have hl16 : pl 16 < n := by omega
    have hl65 : pl 65 < n := by omega
    generalize hM2 : nt_sR M1 (pl 65) k (some n) = M2 at hev
    -- the run over the new memory, as far as 33
    have e2n : nt_n M2 = n + 17 := by rw [← hM2]; exact n1
    have e2k : ∀ p, p < n → nt_k M2 p = nt_k M p := fun p hp => by rw [← hM2]; exact (old p hp).1
    have e2l : ∀ p, p < n → nt_l M2 p = nt_l M p := fun p hp => by rw [← hM2]; exact (old p hp).2.1
    have e2r : nt_R M2 (pl 16) 9 = some (pl 65) := by rw [← hM2, rR _ _ n16, (old _ hl16).2.2.2]; exact rimg
    have e2i : nt_R M2 (pl 65) k = some n := by rw [← hM2, r65, if_pos rfl]
    have hev : nt_rn X (d + 3) 127 (0, [(0, .ref (pl 16)), (1, .int (nI k))], [], M2) (some (.int y), M') := hev
    have hev := ly_revb 2 (c' := (if nI k < 0 then 9 else 4, [(0, .ref (pl 16)), (1, .int (nI k))], [], M2)) rfl hev
    rw [if_neg kk0] at hev
    have hev := ly_revb 3 (c' := (if nI k < Int32.ofInt 4 then 11 else 9, [(0, .ref (pl 16)), (1, .int (nI k))], [], M2)) rfl hev
    rw [if_pos kk4] at hev
    have hev := ly_revb 1 (c' := (12, [(0, .ref (pl 16)), (1, .int (nI k))], [.ref (pl 16)], M2)) rfl hev
    have hev := ly_rev (c' := (15, [(0, .ref (pl 16)), (1, .int (nI k))], [.ref (pl 65)], M2)) (e := (12, .getfield 67, 1009, 0)) rfl rfl (nt_x_get (c := 10) (v := .ref (pl 65)) (show pl 16 < nt_n M2 by omega) (by rw [e2k _ hl16]; exact g16.2.1) rfl (nt_gfR rfl e2r)) hev
    have hev := ly_revb 1 (c' := (16, [(0, .ref (pl 16)), (1, .int (nI k))], [.int (nI k), .ref (pl 65)], M2)) rfl hev
    have aald : ∀ (Mx : nt_M) (pc : Nat) (st : List Value) (o : Option Nat), nt_k Mx (pl 65) = 17 → nt_l Mx (pl 65) = 4 → pl 65 < nt_n Mx → nt_R Mx (pl 65) k = o → nt_sx X 127 0 0 .aaload pc [(0, .ref (pl 16)), (1, .int (nI k))] (.int (nI k) :: .ref (pl 65) :: st) Mx = some (pc + 1, [(0, .ref (pl 16)), (1, .int (nI k))], nt_rv o :: st, Mx) := by
      intro Mx pc st o h1 h2 h3 h4
      show (if nt_k Mx (pl 65) = 17 then nt_in Mx (pl 65) 17 (nI k) (some (pc + 1, _, nt_rv (nt_R Mx (pl 65) (nI k).toNatClampNeg) :: st, Mx)) else _) = _
      rw [if_pos h1, nt_inI (i := k) h3 h1 rfl (by rw [h2]; exact hk) (by rw [h2]; decide), nI_clamp (by omega), h4]
    have hev := ly_rev (c' := (17, [(0, .ref (pl 16)), (1, .int (nI k))], [.ref n], M2)) (e := (16, .aaload, 0, 0)) rfl rfl (aald M2 16 [] (some n) (by rw [e2k _ hl65]; exact g65.2.1) (by rw [e2l _ hl65]; exact l65) (by omega) e2i) hev
    have hev := ly_revb 1 (c' := (33, [(0, .ref (pl 16)), (1, .int (nI k))], [], M2)) rfl hev
    -- the run over the old memory
    refine nt_rn_b 2 (c' := (if nI k < 0 then 9 else 4, [(0, .ref (pl 16)), (1, .int (nI k))], [], M)) rfl ?_
    rw [if_neg kk0]
    refine nt_rn_b 3 (c' := (if nI k < Int32.ofInt 4 then 11 else 9, [(0, .ref (pl 16)), (1, .int (nI k))], [], M)) rfl ?_
    rw [if_pos kk4]
    refine nt_rn_b 1 (c' := (12, [(0, .ref (pl 16)), (1, .int (nI k))], [.ref (pl 16)], M)) rfl ?_
    refine nt_rn_s (c' := (15, [(0, .ref (pl 16)), (1, .int (nI k))], [.ref (pl 65)], M)) (e := (12, .getfield 67, 1009, 0)) rfl rfl (nt_x_get (c := 10) (v := .ref (pl 65)) g16.1 g16.2.1 rfl (nt_gfR rfl rimg)) ?_
    refine nt_rn_b 1 (c' := (16, [(0, .ref (pl 16)), (1, .int (nI k))], [.int (nI k), .ref (pl 65)], M)) rfl ?_
    refine nt_rn_s (c' := (17, [(0, .ref (pl 16)), (1, .int (nI k))], [.null], M)) (e := (16, .aaload, 0, 0)) rfl rfl (aald M 16 [] none g65.2.1 l65 g65.1 hnone) ?_
    refine nt_rn_b 2 (c' := (21, [(0, .ref (pl 16)), (1, .int (nI k))], [.ref (pl 16)], M)) rfl ?_
    refine nt_rn_s (c' := (24, [(0, .ref (pl 16)), (1, .int (nI k))], [.ref (pl 65)], M)) (e := (21, .getfield 67, 1009, 0)) rfl rfl (nt_x_get (c := 10) (v := .ref (pl 65)) g16.1 g16.2.1 rfl (nt_gfR rfl rimg)) ?_
    refine nt_rn_b 1 (c' := (25, [(0, .ref (pl 16)), (1, .int (nI k))], [.int (nI k), .ref (pl 65)], M)) rfl ?_
    refine nt_rn_s (c' := (28, [(0, .ref (pl 16)), (1, .int (nI k))], [.ref (n + 0), .int (nI k), .ref (pl 65)], ly_fo n M (ly_so.drop 32))) (e := (25, .new 57, 6, 0)) rfl rfl (ly_x_new (c := n + 0) hn (by omega) (by decide)) ?_
    refine nt_rn_b 1 (c' := (29, [(0, .ref (pl 16)), (1, .int (nI k))], [.ref (n + 0), .ref (n + 0), .int (nI k), .ref (pl 65)], ly_fo n M (ly_so.drop 32))) rfl ?_
    refine nt_rn_c (g := 63) (q := 2) (vs := [.ref (n + 0)]) (rest := [.ref (n + 0), .int (nI k), .ref (pl 65)]) (e := (29, .invokespecial 59, 63, 0)) rfl rfl (Or.inr (Or.inr ⟨_, rfl, rfl⟩)) rfl (fun h => by cases h) (fun _ => rfl) (ly_mk63 hn hnb) ?_
    rw [← hM1]
    refine nt_rn_s (c' := (33, [(0, .ref (pl 16)), (1, .int (nI k))], [], nt_sR M1 (pl 65) k (some n))) (e := (32, .aastore, 0, 0)) rfl rfl ?_ ?_
    · have k65 : nt_k M1 (pl 65) = 17 := by rw [(old _ hl65).1]; exact g65.2.1
      have kn : nt_k M1 n = 6 := by
        rw [hM1]
        exact (ly_fo_k (i := 0) (q := (6, 0)) hn (by decide +kernel)).1
      show (if n < nt_n M1 ∧ (nt_k M1 (pl 65) = 16 ∧ nt_k M1 n = 4 ∨ nt_k M1 (pl 65) = 17 ∧ nt_k M1 n = 6) then nt_in M1 (pl 65) (nt_k M1 (pl 65)) (nI k) (some (33, _, [], nt_sR M1 (pl 65) (nI k).toNatClampNeg (some n))) else none) = _
      rw [if_pos ⟨by omega, Or.inr ⟨k65, kn⟩⟩, nt_inI (i := k) (by omega) rfl rfl (by rw [(old _ hl65).2.1, l65]; exact hk) (by rw [(old _ hl65).2.1, l65]; decide), nI_clamp (by omega)]
    · rw [hM2]
      exact hev
  · obtain ⟨M2, a, x, i1, i2, i3, i4, i5, i6, i7, ⟨i8, i9⟩, j1, j2, j3, j4⟩ := hI3
    have n23 : pl 23 ≠ pl 65 := fun e => absurd (hB.1 23 65 (by show 23 < 66; omega) (by show 65 < 66; omega) e) (by decide)
    have j2 : nt_n M1 ≤ nt_n M2 := j2
    refine ⟨M2, a, x, i1, i2, i3, i4, i5, fun g j hg => ?_, i7, ⟨fun k' hk' hne => ?_, fun k' a' hk' hne ha' j => ?_⟩, fun b hb => ?_, by omega, fun k' hne => ?_, fun u => ?_⟩
    · have := p1 g hg
      rw [i6 g j hg]
      show nt_I M1 (pl g) j = _
      rw [(old _ (by omega)).2.2.1]
    · rw [i8 k' hk' hne, r65, if_neg hne]
    · rcases p7 k' hk' with ⟨c', _⟩ | ⟨a2, c1', c2', c3', c4', _, _⟩
      · rw [ha'] at c'
        cases c'
      · rw [ha'] at c1'
        cases c1'
        rw [hn] at c4'
        rw [i9 k' a' hk' hne (by rw [r65, if_neg hne]; exact ha') j]
        show nt_I M1 a' j = _
        rw [(old _ (by omega)).2.2.1]
    · rw [hn] at hb
      have q := j1 b (by show b < nt_n M1; omega)
      rw [q.1, q.2]
      show nt_I M1 b = _ ∧ nt_l M1 b = _
      exact ⟨(old b hb).2.2.1, (old b hb).2.1⟩
    · rw [j3 k' hne, r65, if_neg hne]
    · rw [j4 u, rR _ _ n23, (old _ (by omega)).2.2.2]
  · have e : (fun i => if i = k then v 1 else (fun i => if i = k then 0 else xi i) i) = (fun i => if i = k then v 1 else xi i) := by
      funext i
      by_cases c : i = k
      · rw [if_pos c, if_pos c]
      · rw [if_neg c, if_neg c]
        show (if i = k then 0 else xi i) = xi i
        rw [if_neg c]
    rw [e] at hS3
    exact hS3
