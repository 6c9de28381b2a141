/-! calls without a frame, and returns, over states told by sums -/
def sx_ct : List sx_V → Nat
  | [] => 0
  | a :: t => (bif sx_c2 a then 2 else 1) + sx_ct t
theorem sx_ct_ok {pl : Nat → Nat} {r : Nat → Int} : ∀ {st : List sx_V} {cs : List Value}, sx_os pl r st cs → nt_ct cs = sx_ct st
  | [], [], _ => rfl
  | a :: t, v :: u, h => by
    have e := sx_ct_ok h.2
    have c := sx_c2_ok h.1
    show ((v :: u).map fun v => v.category).sum = _
    rw [List.map_cons, List.sum_cons]
    have e : (u.map fun v => v.category).sum = sx_ct t := e
    rw [e, c]
    show _ = (bif sx_c2 a then 2 else 1) + sx_ct t
    cases sx_c2 a <;> rfl
  | [], _ :: _, h => h.elim
  | _ :: _, [], h => h.elim
theorem sx_os_len {pl : Nat → Nat} {r : Nat → Int} : ∀ {st : List sx_V} {cs : List Value}, sx_os pl r st cs → cs.length = st.length
  | [], [], _ => rfl
  | a :: t, v :: u, h => by rw [List.length_cons, List.length_cons, sx_os_len h.2]
  | [], _ :: _, h => h.elim
  | _ :: _, [], h => h.elim
/-- one of two -/
def sx_mm (x y : sx_L) (cx cy : sx_L) (pc : Nat) (ls : List (Nat × sx_V)) (st : List sx_V) (N : sx_N) : List sx_A := [(pc, ls, (0, 0, x) :: st, sx_am [cx] N), (pc, ls, (0, 0, y) :: st, sx_am [cy] N)].filter (fun A => !sx_de A.2.2.2)
theorem sx_mm_ok {E : sx_E} {F : sx_F} {r : Nat → Int} {X Y cx cy : sx_L} {pc : Nat} {ls : List (Nat × sx_V)} {st : List sx_V} {N : sx_N} {cl : nt_V} {cs : List Value} {M : nt_M} {v : Int32} (h1 : sx_ol F.1 r ls cl) (h2 : sx_os F.1 r st cs) (h3 : sx_on E F r N M) (h : v.toInt = sx_e r X ∧ 0 ≤ sx_e r cx ∨ v.toInt = sx_e r Y ∧ 0 ≤ sx_e r cy) : sx_an E F (sx_mm X Y cx cy pc ls st N) (pc, cl, .int v :: cs, M) := by
  rcases h with ⟨e, c⟩ | ⟨e, c⟩
  · have h4 := sx_am_ok (Ls := [cx]) h3 (fun L hL => by rw [List.mem_singleton.mp hL]; exact c)
    refine ⟨_, List.mem_filter.mpr ⟨List.mem_cons_self .., ?_⟩, r, rfl, h1, ⟨⟨v, rfl, e⟩, h2⟩, h4⟩
    show (!sx_de (sx_am [cx] N)) = true
    rw [sx_de_ok h4]; rfl
  · have h4 := sx_am_ok (Ls := [cy]) h3 (fun L hL => by rw [List.mem_singleton.mp hL]; exact c)
    refine ⟨_, List.mem_filter.mpr ⟨List.mem_cons_of_mem _ (List.mem_cons_self ..), ?_⟩, r, rfl, h1, ⟨⟨v, rfl, e⟩, h2⟩, h4⟩
    show (!sx_de (sx_am [cy] N)) = true
    rw [sx_de_ok h4]; rfl
/-- what a copy lets stand -/
def sx_ka (E : sx_E) (g : Nat) (q : (Nat × sx_L) × sx_L) : Bool := bif Nat.beq q.1.1 g then (match q.1.2 with | (c, []) => decide (c < 0) | _ => false) else bif Nat.ble 100 q.1.1 then !((E.1.2.getD (q.1.1 - 100) []).any (fun h => Nat.beq h g)) else true
def sx_cpy (E : sx_E) (pc : Nat) (ls : List (Nat × sx_V)) (N : sx_N) (n : sx_L) (a0 a1 : Nat) (t : List sx_V) : Option (List sx_A) := match E.2.1[a0]?, E.2.1[a1]? with
  | some p, some q => bif sx_gd E && (Nat.blt a0 100 && (Nat.blt a1 100 && (Nat.beq p.1 q.1 && ((Nat.beq p.1 13 || Nat.beq p.1 15) && (Nat.beq p.2.2.2 q.2.2.2 && (sx_p N n && (sx_p N (sx_sub (p.2.1, []) n) && (sx_p N (sx_sub (q.2.1, []) n) && E.2.2.1.any (fun m => Nat.beq m.1 a1 && (decide (m.2.1 ≤ 0) && decide (2147483647 ≤ m.2.2)))))))))))
      then some [(pc, ls, t, (N.1.filter (sx_ka E a1), N.2))] else none
  | _, _ => none
theorem sx_cpy_ok {E : sx_E} {F : sx_F} {r : Nat → Int} {pc : Nat} {ls : List (Nat × sx_V)} {N : sx_N} {n : sx_L} {a0 a1 : Nat} {t : List sx_V} {cl : nt_V} {cs : List Value} {M : nt_M} {As : List sx_A} {x : Int32} (h : sx_cpy E pc ls N n a0 a1 t = some As) (h1 : sx_ol F.1 r ls cl) (h2 : sx_os F.1 r t cs) (h3 : sx_on E F r N M) (hx : x.toInt = sx_e r n) : (F.1 a0 < nt_n M ∧ F.1 a1 < nt_n M ∧ nt_k M (F.1 a0) = nt_k M (F.1 a1) ∧ (nt_k M (F.1 a0) = 13 ∨ nt_k M (F.1 a0) = 15) ∧ ¬ x < 0 ∧ x.toNatClampNeg ≤ nt_l M (F.1 a0) ∧ x.toNatClampNeg ≤ nt_l M (F.1 a1)) ∧ sx_an E F As (pc, cl, cs, nt_wI M (F.1 a1) (va_cpy (nt_I M (F.1 a0)) (nt_I M (F.1 a1)) 0 0 x.toNatClampNeg)) := by
  unfold sx_cpy at h
  split at h
  · rename_i p q hp hq
    obtain ⟨hc, h⟩ := sx_bif h
    simp only [Bool.and_eq_true] at hc
    obtain ⟨hd, g0, g1, c1, c2, c3, c4, c5, c6, c7⟩ := hc
    have g0 : a0 < 100 := Nat.blt_eq.mp g0
    have g1 : a1 < 100 := Nat.blt_eq.mp g1
    have c1 := Nat.eq_of_beq_eq_true c1
    have c3 := Nat.eq_of_beq_eq_true c3
    have c4 := sx_p_ok h3 c4
    have c5 := sx_p_ok h3 c5
    have c6 := sx_p_ok h3 c6
    rw [sx_sub_e, sx_c_e] at c5 c6
    cases h
    obtain ⟨b1, b2, b3, b4, b5⟩ := h3.2.1.2 a0 p hp
    obtain ⟨d1, d2, d3, d4, d5⟩ := h3.2.1.2 a1 q hq
    have hX := sx_ix (n := 0) hx c4
    have hn : x.toNatClampNeg = (sx_e r n).toNat := by
      rw [hX]; exact nI_clamp (by omega)
    have x0 : ¬ x < 0 := by rw [sx_lt32, sx_z32]; omega
    have hk : nt_k M (F.1 a0) = 13 ∨ nt_k M (F.1 a0) = 15 := by
      rw [Bool.or_eq_true] at c2
      rcases c2 with c | c
      · exact Or.inl (b2.trans (Nat.eq_of_beq_eq_true c))
      · exact Or.inr (b2.trans (Nat.eq_of_beq_eq_true c))
    have hl0 : a0 < E.2.1.length := (List.getElem?_eq_some_iff.mp hp).1
    have hl1 : a1 < E.2.1.length := (List.getElem?_eq_some_iff.mp hq).1
    refine ⟨⟨b1, d1, by rw [b2, d2, c1], hk, x0, by omega, by omega⟩, ?_⟩
    obtain ⟨e0, ⟨e1, e2⟩, e3, e4, e5, e6, e7⟩ := h3
    have row : ∀ k j, nt_I (nt_wI M (F.1 a1) (va_cpy (nt_I M (F.1 a0)) (nt_I M (F.1 a1)) 0 0 x.toNatClampNeg)) k j = if k = F.1 a1 then (if 0 ≤ j ∧ j < 0 + x.toNatClampNeg then nt_I M (F.1 a0) (0 + (j - 0)) else nt_I M (F.1 a1) j) else nt_I M k j := by
      intro k j
      show nt_u1 (nt_I M) (F.1 a1) _ k j = _
      unfold nt_u1
      by_cases e : k = F.1 a1
      · rw [if_pos e, if_pos e]; rfl
      · rw [if_neg e, if_neg e]
    refine sx_an1 (r := r) ⟨rfl, h1, h2, e0, ⟨e1, fun k s hs => ?_⟩, fun s hs => ?_, e4, e5, e6, ?_⟩
    · obtain ⟨f1, f2, f3, f4, f5⟩ := e2 k s hs
      refine ⟨f1, f2, f3, f4, fun j => ?_⟩
      rw [row]
      by_cases e : F.1 k = F.1 a1
      · have e9 := e0.2 k a1 (List.getElem?_eq_some_iff.mp hs).1 hl1 e
        rw [e9, hq] at hs
        cases hs
        rw [if_pos e]
        split
        · rw [show 0 + (j - 0) = j from by omega, ← c3]; exact b5 j
        · exact d5 j
      · rw [if_neg e]; exact f5 j
    · obtain ⟨s1, s2⟩ := List.mem_filter.mp hs
      obtain ⟨t1, t2⟩ := e3 s s1
      refine ⟨t1, ?_⟩
      rw [← t2]
      unfold sx_ka at s2
      unfold sx_rd
      by_cases k : 100 ≤ s.1.1
      · rw [if_pos k, if_pos k]
        cases k1 : Nat.beq s.1.1 a1 with
        | true =>
          have := Nat.eq_of_beq_eq_true k1
          omega
        | false =>
          rw [k1, cond_false, show Nat.ble 100 s.1.1 = true from Nat.ble_eq_true_of_le k, cond_true] at s2
          refine e0.1 _ _ _ _ fun h' hh j hj => ?_
          have hh' : h' < E.2.1.length := by
            unfold sx_gd at hd
            rw [List.getD_eq_getElem?_getD] at hh
            cases ee : E.1.2[s.1.1 - 100]? with
            | none => rw [ee] at hh; cases hh
            | some l =>
              rw [ee] at hh
              exact Nat.blt_eq.mp (List.all_eq_true.mp (List.all_eq_true.mp hd l (List.mem_of_getElem? ee)) h' hh)
          show nt_I (nt_wI M _ _) (F.1 h') j = _
          rw [row, if_neg]
          intro e
          have e9 := e0.2 h' a1 hh' hl1 e
          have : (E.1.2.getD (s.1.1 - 100) []).any (fun h => Nat.beq h a1) = true := List.any_eq_true.mpr ⟨h', hh, by rw [e9]; exact Nat.beq_refl _⟩
          rw [this] at s2
          cases s2
      · rw [if_neg k, if_neg k]
        by_cases ki : sx_e r s.1.2 < 0
        · rw [if_pos ki, if_pos ki]; rfl
        · rw [if_neg ki, if_neg ki, row, if_neg]
          intro e
          have e9 := e0.2 _ a1 (t1.resolve_right k) hl1 e
          rw [e9, Nat.beq_refl, cond_true] at s2
          split at s2
          · rename_i c hc
            rw [hc, sx_c_e] at ki
            exact ki (of_decide_eq_true s2)
          · cases s2
    · obtain ⟨f1, f5, f6, f7⟩ := e7
      refine ⟨f1, fun a j hj => ?_, f6, f7⟩
      rw [← f5 a j hj, row]
      by_cases e : a = F.1 a1
      · rw [if_pos e]
        by_cases hj2 : j < 2147483648
        · obtain ⟨m, hm, hm2⟩ := List.any_eq_true.mp c7
          rw [Bool.and_eq_true, Bool.and_eq_true, decide_eq_true_eq, decide_eq_true_eq] at hm2
          have m1 := Nat.eq_of_beq_eq_true hm2.1
          exact absurd ⟨by rw [m1]; exact e, by omega, by omega⟩ (hj m hm (by rw [m1]; exact hl1))
        · rw [if_neg (by omega), e]
      · rw [if_neg e]
  · cases h
/-- calls that make no frame -/
def sx_nx (E : sx_E) (dl g q pc : Nat) (ls : List (Nat × sx_V)) (st : List sx_V) (N : sx_N) : Option (List sx_A) :=
  bif Nat.beq g 1001 && Nat.beq q 0 then sx_i1 st fun n st => sx_i1 st fun dp st => sx_a1 st fun a1 st => sx_i1 st fun sp st => sx_a1 st fun a0 st => bif Nat.ble 1 dl && (Nat.ble (sx_ct st) 8 && (sx_leq dp (0, []) && sx_leq sp (0, []))) then sx_cpy E (pc + 3) ls N n a0 a1 st else none else
  bif Nat.beq g 1002 && Nat.beq q 0 then sx_i1 st fun y st => sx_i1 st fun x st => bif Nat.ble 1 dl && Nat.ble (sx_ct st) 8 then some (sx_mm y x (sx_add (-1, []) (sx_sub y x)) (sx_sub x y) (pc + 3) ls st N) else none else
  bif Nat.beq g 1003 && Nat.beq q 0 then sx_i1 st fun y st => sx_i1 st fun x st => bif Nat.ble 1 dl && Nat.ble (sx_ct st) 8 then some (sx_mm y x (sx_add (-1, []) (sx_sub x y)) (sx_sub y x) (pc + 3) ls st N) else none else
  bif Nat.beq g 1004 && Nat.beq q 1 then (match st with | (5, a, _) :: st => bif Nat.ble 4 dl && (Nat.ble (sx_ct st) 8 && Nat.blt a 18) then some [(pc + 3, ls, (0, 0, (((nt_SB.getD a []).length : Nat), [])) :: st, N)] else none | _ => none) else
  bif Nat.beq g 1005 && Nat.beq q 1 then sx_i1 st fun L st => (match st with | (5, a, _) :: st => bif Nat.ble 4 dl && (Nat.ble (sx_ct st) 8 && (Nat.blt a 18 && (sx_p N L && sx_p N (sx_sub ((((nt_SB.getD a []).length : Nat) : Int) - 1, []) L)))) then sx_pF E sx_nI sx_xI (pc + 3) ls st N else none | _ => none) else
  none
theorem sx_SBl : ∀ a, (nt_SB.getD a []).length < 100 := by
  intro a
  rw [List.getD_eq_getElem?_getD]
  cases e : nt_SB[a]? with
  | none => decide
  | some l =>
    have : nt_SB.all (fun l => decide (l.length < 100)) = true := by decide +kernel
    exact of_decide_eq_true (List.all_eq_true.mp this l (List.mem_of_getElem? e))
theorem sx_nx_ok {E : sx_E} {F : sx_F} {r : Nat → Int} {d dl g q pc : Nat} {ls : List (Nat × sx_V)} {st : List sx_V} {N : sx_N} {cl : nt_V} {cs : List Value} {M : nt_M} {As : List sx_A} (hd : dl ≤ d) (h : sx_nx E dl g q pc ls st N = some As) (h1 : sx_ol F.1 r ls cl) (h2 : sx_os F.1 r st cs) (h3 : sx_on E F r N M) : ∃ c', nt_nx d g q pc cl cs M = some c' ∧ sx_an E F As c' := by
  unfold sx_nx at h
  unfold nt_nx
  cases e1 : Nat.beq g 1001 && Nat.beq q 0 with
  | true =>
    rw [e1, cond_true] at h
    rw [Bool.and_eq_true] at e1
    have g1 := Nat.eq_of_beq_eq_true e1.1
    have q1 := Nat.eq_of_beq_eq_true e1.2
    rw [if_neg (by omega), if_pos ⟨g1, q1⟩]
    obtain ⟨n, t1, x, c1, rfl, hx, h4, h⟩ := sx_i1_ok h h2
    obtain ⟨dp, t2, y, c2, rfl, hy, h5, h⟩ := sx_i1_ok h h4
    obtain ⟨a1, t3, c3, rfl, h6, h⟩ := sx_a1_ok h h5
    obtain ⟨sp, t4, z, c4, rfl, hz, h7, h⟩ := sx_i1_ok h h6
    obtain ⟨a0, t5, c5, rfl, h8, h⟩ := sx_a1_ok h h7
    obtain ⟨hc, h⟩ := sx_bif h
    rw [Bool.and_eq_true, Bool.and_eq_true, Bool.and_eq_true] at hc
    obtain ⟨k1, k2, k3, k4⟩ := hc
    have k1 : 1 ≤ dl := Nat.le_of_ble_eq_true k1
    have k2 : sx_ct t5 ≤ 8 := Nat.le_of_ble_eq_true k2
    have k3 := sx_leq_ok k3
    have k4 := sx_leq_ok k4
    rw [k3, sx_c_e] at hy
    rw [k4, sx_c_e] at hz
    have hy : y = 0 := by rw [sx_eq32, sx_z32]; exact hy
    have hz : z = 0 := by rw [sx_eq32, sx_z32]; exact hz
    obtain ⟨⟨m1, m2, m3, m4, m5, m6, m7⟩, m8⟩ := sx_cpy_ok h h1 h8 h3 hx
    rw [← sx_ct_ok h8] at k2
    subst hy; subst hz
    refine ⟨_, ?_, m8⟩
    dsimp only
    rw [show (0 : Int32).toNatClampNeg = 0 from rfl, if_pos ⟨by omega, k2, m1, m2, m3, m4, by decide, by decide, m5, by omega, by omega⟩]
  | false =>
  rw [e1, cond_false] at h
  cases e2 : Nat.beq g 1002 && Nat.beq q 0 with
  | true =>
    rw [e2, cond_true] at h
    rw [Bool.and_eq_true] at e2
    have g1 := Nat.eq_of_beq_eq_true e2.1
    have q1 := Nat.eq_of_beq_eq_true e2.2
    rw [if_neg (by omega), if_neg (by omega), if_pos ⟨g1, q1⟩]
    obtain ⟨Y, t1, y, c1, rfl, hy, h4, h⟩ := sx_i1_ok h h2
    obtain ⟨X, t2, x, c2, rfl, hx, h5, h⟩ := sx_i1_ok h h4
    obtain ⟨hc, h⟩ := sx_bif h
    rw [Bool.and_eq_true] at hc
    have k1 : 1 ≤ dl := Nat.le_of_ble_eq_true hc.1
    have k2 : sx_ct t2 ≤ 8 := Nat.le_of_ble_eq_true hc.2
    rw [← sx_ct_ok h5] at k2
    cases h
    refine ⟨_, if_pos ⟨by omega, k2⟩, sx_mm_ok h1 h5 h3 ?_⟩
    by_cases k : x < y
    · rw [if_pos k]
      rw [sx_lt32] at k
      rw [sx_add_e, sx_c_e, sx_sub_e]
      exact Or.inl ⟨hy, by omega⟩
    · rw [if_neg k]
      rw [sx_lt32] at k
      rw [sx_sub_e]
      exact Or.inr ⟨hx, by omega⟩
  | false =>
  rw [e2, cond_false] at h
  cases e3 : Nat.beq g 1003 && Nat.beq q 0 with
  | true =>
    rw [e3, cond_true] at h
    rw [Bool.and_eq_true] at e3
    have g1 := Nat.eq_of_beq_eq_true e3.1
    have q1 := Nat.eq_of_beq_eq_true e3.2
    rw [if_neg (by omega), if_neg (by omega), if_neg (by omega), if_pos ⟨g1, q1⟩]
    obtain ⟨Y, t1, y, c1, rfl, hy, h4, h⟩ := sx_i1_ok h h2
    obtain ⟨X, t2, x, c2, rfl, hx, h5, h⟩ := sx_i1_ok h h4
    obtain ⟨hc, h⟩ := sx_bif h
    rw [Bool.and_eq_true] at hc
    have k1 : 1 ≤ dl := Nat.le_of_ble_eq_true hc.1
    have k2 : sx_ct t2 ≤ 8 := Nat.le_of_ble_eq_true hc.2
    rw [← sx_ct_ok h5] at k2
    cases h
    refine ⟨_, if_pos ⟨by omega, k2⟩, sx_mm_ok h1 h5 h3 ?_⟩
    by_cases k : y < x
    · rw [if_pos k]
      rw [sx_lt32] at k
      rw [sx_add_e, sx_c_e, sx_sub_e]
      exact Or.inl ⟨hy, by omega⟩
    · rw [if_neg k]
      rw [sx_lt32] at k
      rw [sx_sub_e]
      exact Or.inr ⟨hx, by omega⟩
  | false =>
  rw [e3, cond_false] at h
  cases e4 : Nat.beq g 1004 && Nat.beq q 1 with
  | true =>
    rw [e4, cond_true] at h
    rw [Bool.and_eq_true] at e4
    have g1 := Nat.eq_of_beq_eq_true e4.1
    have q1 := Nat.eq_of_beq_eq_true e4.2
    rw [if_neg (by omega), if_neg (by omega), if_neg (by omega), if_neg (by omega), if_pos ⟨g1, q1⟩]
    split at h
    · rename_i a z t1
      obtain ⟨hc, h⟩ := sx_bif h
      rw [Bool.and_eq_true, Bool.and_eq_true] at hc
      have k1 : 4 ≤ dl := Nat.le_of_ble_eq_true hc.1
      have k2 : sx_ct t1 ≤ 8 := Nat.le_of_ble_eq_true hc.2.1
      have k3 : a < 18 := Nat.blt_eq.mp hc.2.2
      cases h
      obtain ⟨w, u, rfl, hw, h4⟩ := sx_os_c h2
      have hw : w = .ref (nt_sp + 1 + a) := hw
      subst hw
      rw [← sx_ct_ok h4] at k2
      have es : nt_si (nt_sp + 1 + a) = a := by unfold nt_si; omega
      refine ⟨_, if_pos ⟨by omega, k2, by omega, by omega⟩, sx_an1 (r := r) ⟨rfl, h1, ⟨⟨_, rfl, ?_⟩, h4⟩, h3⟩⟩
      dsimp only
      rw [sx_c_e, es]
      have := sx_SBl a
      exact Int32.toInt_ofNat_of_lt (by omega)
    · cases h
  | false =>
  rw [e4, cond_false] at h
  cases e5 : Nat.beq g 1005 && Nat.beq q 1 with
  | true =>
    rw [e5, cond_true] at h
    rw [Bool.and_eq_true] at e5
    have g1 := Nat.eq_of_beq_eq_true e5.1
    have q1 := Nat.eq_of_beq_eq_true e5.2
    rw [if_neg (by omega), if_neg (by omega), if_neg (by omega), if_neg (by omega), if_neg (by omega), if_pos ⟨g1, q1⟩]
    obtain ⟨L, t0, x, c1, rfl, hx, h4, h⟩ := sx_i1_ok h h2
    split at h
    · rename_i a z t1
      obtain ⟨hc, h⟩ := sx_bif h
      rw [Bool.and_eq_true, Bool.and_eq_true, Bool.and_eq_true, Bool.and_eq_true] at hc
      have k1 : 4 ≤ dl := Nat.le_of_ble_eq_true hc.1
      have k2 : sx_ct t1 ≤ 8 := Nat.le_of_ble_eq_true hc.2.1
      have k3 : a < 18 := Nat.blt_eq.mp hc.2.2.1
      have k4 := sx_p_ok h3 hc.2.2.2.1
      have k5 := sx_p_ok h3 hc.2.2.2.2
      rw [sx_sub_e, sx_c_e] at k5
      obtain ⟨w, u, rfl, hw, h5⟩ := sx_os_c h4
      have hw : w = .ref (nt_sp + 1 + a) := hw
      subst hw
      rw [← sx_ct_ok h5] at k2
      have es : nt_si (nt_sp + 1 + a) = a := by unfold nt_si; omega
      have hX := sx_ix (n := 0) hx k4
      have := sx_SBl a
      have hn : x.toNatClampNeg = (sx_e r L).toNat := by
        rw [hX]; exact nI_clamp (by omega)
      refine ⟨_, if_pos ⟨by omega, k2, by omega, by omega, ?_⟩, sx_pFf_ok _ h h1 h5 h3⟩
      rw [es, hn, sx_lt32, sx_z32]
      omega
    · cases h
  | false =>
  rw [e5, cond_false] at h
  cases h
/-- what is handed back -/
def sx_ov (pl : Nat → Nat) (r : Nat → Int) : Option sx_V → Option Value → Prop
  | none, none => True
  | some a, some v => sx_v pl r a v
  | _, _ => False
def sx_ret (mi : Nat) (ins : Instr) (st : List sx_V) (N : sx_N) : Option (Option sx_V) := match ins, st, (nt_m mi).2.2.2.1 with
  | .ireturn, [(0, _, L)], some .int => some (some (0, 0, L))
  | .ireturn, [(0, _, L)], some .boolean => bif sx_p N L && sx_p N (sx_sub (1, []) L) then some (some (0, 0, L)) else none
  | .lreturn, [(1, _, L)], some .long => some (some (1, 0, L))
  | .areturn, [(2, a, _)], some (.object _) => some (some (2, a, (0, [])))
  | .areturn, [(3, _, _)], some (.object _) => some (some (3, 0, (0, [])))
  | .areturn, [(5, a, _)], some (.object _) => some (some (5, a, (0, [])))
  | .return_, [], none => some none
  | _, _, _ => none
theorem sx_ret_ok {E : sx_E} {F : sx_F} {r : Nat → Int} {mi : Nat} {ins : Instr} {st : List sx_V} {N : sx_N} {cs : List Value} {M : nt_M} {v : Option sx_V} (h : sx_ret mi ins st N = some v) (h2 : sx_os F.1 r st cs) (h3 : sx_on E F r N M) : ∃ o, nt_re mi ins cs M = some (o, M) ∧ sx_ov F.1 r v o := by
  unfold sx_ret at h
  unfold nt_re
  split at h
  · rename_i e
    cases h
    obtain ⟨w, u, rfl, ⟨x, rfl, hx⟩, h4⟩ := sx_os_c h2
    cases u with
    | nil => rw [e]; exact ⟨_, rfl, x, rfl, hx⟩
    | cons _ _ => exact h4.elim
  · rename_i e
    obtain ⟨hc, h⟩ := sx_bif h
    cases h
    obtain ⟨w, u, rfl, ⟨x, rfl, hx⟩, h4⟩ := sx_os_c h2
    rw [Bool.and_eq_true] at hc
    have k1 := sx_p_ok h3 hc.1
    have k2 := sx_p_ok h3 hc.2
    rw [sx_sub_e, sx_c_e] at k2
    have hz : x = 0 ∨ x = 1 := by
      rw [sx_eq32, sx_eq32, sx_z32, show (1 : Int32).toInt = 1 from rfl]
      dsimp only at hx
      omega
    cases u with
    | nil => rw [e]; exact ⟨_, if_pos hz, x, rfl, hx⟩
    | cons _ _ => exact h4.elim
  · rename_i e
    cases h
    obtain ⟨w, u, rfl, ⟨x, rfl, hx⟩, h4⟩ := sx_os_c h2
    cases u with
    | nil => rw [e]; exact ⟨_, rfl, x, rfl, hx⟩
    | cons _ _ => exact h4.elim
  · rename_i e
    cases h
    obtain ⟨w, u, rfl, rfl, h4⟩ := sx_os_c h2
    cases u with
    | nil => rw [e]; exact ⟨_, rfl, rfl⟩
    | cons _ _ => exact h4.elim
  · rename_i e
    cases h
    obtain ⟨w, u, rfl, rfl, h4⟩ := sx_os_c h2
    cases u with
    | nil => rw [e]; exact ⟨_, rfl, rfl⟩
    | cons _ _ => exact h4.elim
  · rename_i e
    cases h
    obtain ⟨w, u, rfl, rfl, h4⟩ := sx_os_c h2
    cases u with
    | nil => rw [e]; exact ⟨_, rfl, rfl⟩
    | cons _ _ => exact h4.elim
  · rename_i e
    cases h
    cases cs with
    | nil => rw [e]; exact ⟨_, rfl, trivial⟩
    | cons _ _ => exact h2.elim
  · cases h
