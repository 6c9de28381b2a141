/-! a call by its contract -/
def sx_zq (zf : Nat → sx_L) (n0 base : Nat) (i : Nat) : sx_L := bif Nat.blt i n0 then zf i else (0, [(base + (i - n0), 1)])
def sx_pg (gf : Nat → Nat) (g : Nat) : Nat := bif Nat.blt g 100 then gf g else g
def sx_pr2 (gf : Nat → Nat) (k : Nat) : Nat := match k with
  | 0 => 0
  | j + 1 => gf j + 1
/-- ints that stand over a call -/
def sx_kI (E : sx_E) (mo : List (Nat × Int × Int)) (gf : Nat → Nat) (N : sx_N) (q : (Nat × sx_L) × sx_L) : Bool := bif Nat.ble 100 q.1.1 then mo.all (fun m => !((E.1.2.getD (q.1.1 - 100) []).any (fun h => Nat.beq h (gf m.1))) || sx_p N (sx_sub (m.2.1, []) q.1.2)) else mo.all (fun m => !Nat.beq (gf m.1) q.1.1 || (sx_p N (sx_sub (m.2.1 - 1, []) q.1.2) || sx_p N (sx_sub q.1.2 (m.2.2 + 1, []))))
def sx_kR (rm : List (Nat × Nat)) (gf : Nat → Nat) (N : sx_N) (q : (Nat × sx_L) × Nat) : Bool := rm.all (fun m => !Nat.beq (gf m.1) q.1.1 || sx_nq N q.1.2 ((m.2 : Int), []))
def sx_pst (E : sx_E) (mo : List (Nat × Int × Int)) (rm : List (Nat × Nat)) (n0 : Nat) (gf : Nat → Nat) (zf : Nat → sx_L) (N P : sx_N) : sx_N := sx_am (P.2.2.1.2.map (sx_sb (sx_zq zf n0 N.2.2.2))) (P.1.map (fun q => ((sx_pg gf q.1.1, sx_sb (sx_zq zf n0 N.2.2.2) q.1.2), sx_sb (sx_zq zf n0 N.2.2.2) q.2)) ++ N.1.filter (sx_kI E mo gf N), P.2.1.map (fun q => ((gf q.1.1, sx_sb (sx_zq zf n0 N.2.2.2) q.1.2), sx_pr2 gf q.2)) ++ N.2.1.filter (sx_kR rm gf N), ((P.2.2.1.1.filter (fun b => Nat.ble n0 b.1)).map (fun b => (N.2.2.2 + (b.1 - n0), b.2)) ++ N.2.2.1.1, N.2.2.1.2), N.2.2.2 + (P.2.2.2 - n0))
/-- what may change there may change here -/
def sx_vm (E : sx_E) (mo : List (Nat × Int × Int)) (rm : List (Nat × Nat)) (n : Nat) (gf : Nat → Nat) : Bool := mo.all (fun m => Nat.blt m.1 n && E.2.2.1.any (fun e => Nat.beq e.1 (gf m.1) && (decide (e.2.1 ≤ m.2.1) && decide (m.2.2 ≤ e.2.2)))) && rm.all (fun m => Nat.blt m.1 n && E.2.2.2.1.any (fun e => Nat.beq e.1 (gf m.1) && Nat.beq e.2 m.2))
/-- of ghosts: the same regions -/
def sx_vg (E : sx_E) (gf : Nat → Nat) (c : sx_I) : Bool := c.all (fun q => Nat.blt q.1.1 100 || (E.1.2.getD (q.1.1 - 100) []).all (fun h => Nat.beq (gf h) h))
theorem sx_pst_ok {E EK : sx_E} {F : sx_F} {r rq : Nat → Int} {N P : sx_N} {M M' : nt_M} {gf : Nat → Nat} {zf : Nat → sx_L} {r0 : Nat → Int} {n0 : Nat} (hT : EK.1 = E.1) (hgd : sx_gd E = true) (hl : E.2.1.length ≤ 100) (hlk : EK.2.1.length ≤ 100) (hD : ∀ k q, EK.2.1[k]? = some q → E.2.1[gf k]? = some q) (hm : sx_vm E EK.2.2.1 EK.2.2.2.1 EK.2.1.length gf = true) (hg : sx_vg E gf P.1 = true) (hr : ∀ i, sx_rf r (sx_zq zf n0 N.2.2.2) i = rq i) (hn : sx_on E F r N M) (hk : sx_on EK (fun g => F.1 (gf g), M, r0, F.2.2.2) rq P M') : sx_on E F r (sx_pst E EK.2.2.1 EK.2.2.2.1 n0 gf zf N P) M' := by
  obtain ⟨a0, ⟨a1, a2⟩, a3, a4, ⟨a5, a5'⟩, a6, a7⟩ := hn
  have hn : sx_on E F r N M := ⟨a0, ⟨a1, a2⟩, a3, a4, ⟨a5, a5'⟩, a6, a7⟩
  obtain ⟨b0, ⟨b1, b2⟩, b3, b4, ⟨b5, b5'⟩, b6, ⟨⟨f1, f2, f3, f4⟩, f5, f6, f7⟩⟩ := hk
  have hrf : sx_rf r (sx_zq zf n0 N.2.2.2) = rq := funext hr
  have hsb : ∀ L, sx_e r (sx_sb (sx_zq zf n0 N.2.2.2) L) = sx_e rq L := fun L => by rw [sx_sb_e, hrf]
  have hlt : ∀ k, k < EK.2.1.length → gf k < E.2.1.length := fun k hk => by
    have e := List.getElem?_eq_getElem hk
    exact (List.getElem?_eq_some_iff.mp (hD k _ e)).1
  unfold sx_vm at hm
  rw [Bool.and_eq_true] at hm
  -- ints outside of what may change
  have hI : ∀ (a j : Nat), (∀ m ∈ EK.2.2.1, m.1 < EK.2.1.length → ¬ (a = F.1 (gf m.1) ∧ m.2.1 ≤ (j : Int) ∧ (j : Int) ≤ m.2.2)) → nt_I M' a j = nt_I M a j := fun a j h => f5 a j h
  refine sx_am_ok (N := (P.1.map (fun q => ((sx_pg gf q.1.1, sx_sb (sx_zq zf n0 N.2.2.2) q.1.2), sx_sb (sx_zq zf n0 N.2.2.2) q.2)) ++ N.1.filter (sx_kI E EK.2.2.1 gf N), P.2.1.map (fun q => ((gf q.1.1, sx_sb (sx_zq zf n0 N.2.2.2) q.1.2), sx_pr2 gf q.2)) ++ N.2.1.filter (sx_kR EK.2.2.2.1 gf N), ((P.2.2.1.1.filter (fun b => Nat.ble n0 b.1)).map (fun b => (N.2.2.2 + (b.1 - n0), b.2)) ++ N.2.2.1.1, N.2.2.1.2), N.2.2.2 + (P.2.2.2 - n0))) ⟨a0, ⟨by rw [f1]; exact a1, fun k q hq => ?_⟩, fun q hq => ?_, fun q hq => ?_, ⟨fun q hq => ?_, a5'⟩, a6, ?_⟩ ?_
  · obtain ⟨c1, c2, c3, c4, c5⟩ := a2 k q hq
    refine ⟨by rw [f1]; exact c1, by rw [f3]; exact c2, by rw [f4]; exact c3, by rw [f4]; exact c4, fun j => ?_⟩
    by_cases e : ∃ g, g < EK.2.1.length ∧ gf g = k
    · obtain ⟨g, g1, g2⟩ := e
      have e1 := List.getElem?_eq_getElem g1
      have e2 := hD g _ e1
      rw [g2, hq] at e2
      obtain ⟨d1, d2, d3, d4, d5⟩ := b2 g _ e1
      have d5 := d5 j
      rw [← Option.some.inj e2, hT] at d5
      dsimp only at d5
      rw [g2] at d5
      exact d5
    · rw [hI _ j fun m hm' hm2 hh => e ⟨m.1, hm2, a0.2 _ _ (hlt _ hm2) (List.getElem?_eq_some_iff.mp hq).1 hh.1.symm⟩]
      exact c5 j
  · rcases List.mem_append.mp hq with q1 | q1
    · obtain ⟨p, hp, rfl⟩ := List.mem_map.mp q1
      obtain ⟨c1, c2⟩ := b3 p hp
      dsimp only
      rw [hsb, hsb, ← c2]
      unfold sx_pg
      cases e : Nat.blt p.1.1 100 with
      | true =>
        rw [cond_true]
        have e : p.1.1 < 100 := Nat.blt_eq.mp e
        have c3 : p.1.1 < EK.2.1.length := by
          rcases c1 with c | c
          · exact c
          · omega
        have c4 := hlt _ c3
        refine ⟨Or.inl c4, ?_⟩
        unfold sx_rd
        have n1 : ¬ 100 ≤ p.1.1 := by omega
        have n2 : ¬ 100 ≤ gf p.1.1 := by omega
        rw [if_neg n1, if_neg n2]
      | false =>
        rw [cond_false]
        have g3 : 100 ≤ p.1.1 := by
          have : ¬ p.1.1 < 100 := fun k => by rw [sx_blt k] at e; cases e
          omega
        refine ⟨Or.inr g3, ?_⟩
        unfold sx_rd
        rw [if_pos g3, if_pos g3]
        refine a0.1 _ _ _ _ fun h' hh j hj => ?_
        have hg := List.all_eq_true.mp hg p hp
        rw [e, Bool.false_or] at hg
        have := Nat.eq_of_beq_eq_true (List.all_eq_true.mp hg h' hh)
        show nt_I M' (F.1 h') j = nt_I M' (F.1 (gf h')) j
        rw [this]
    · obtain ⟨q1, q2⟩ := List.mem_filter.mp q1
      obtain ⟨c1, c2⟩ := a3 q q1
      refine ⟨c1, ?_⟩
      rw [← c2]
      unfold sx_kI at q2
      unfold sx_rd
      by_cases k : 100 ≤ q.1.1
      · rw [if_pos k, if_pos k]
        rw [show Nat.ble 100 q.1.1 = true from Nat.ble_eq_true_of_le k, cond_true] at q2
        refine a0.1 _ _ _ _ fun h' hh j hj => ?_
        refine hI _ j fun m hm' hm2 hz => ?_
        have hh' : h' < E.2.1.length := by
          unfold sx_gd at hgd
          rw [List.getD_eq_getElem?_getD] at hh
          cases ee : E.1.2[q.1.1 - 100]? with
          | none => rw [ee] at hh; cases hh
          | some l =>
            rw [ee] at hh
            exact Nat.blt_eq.mp (List.all_eq_true.mp (List.all_eq_true.mp hgd l (List.mem_of_getElem? ee)) h' hh)
        have e := a0.2 _ _ hh' (hlt _ hm2) hz.1
        have w := List.all_eq_true.mp q2 m hm'
        rw [Bool.or_eq_true] at w
        rcases w with w | w
        · rw [show (E.1.2.getD (q.1.1 - 100) []).any (fun h => Nat.beq h (gf m.1)) = true from List.any_eq_true.mpr ⟨h', hh, by rw [e]; exact Nat.beq_refl _⟩] at w
          cases w
        · have := sx_p_ok hn w
          rw [sx_sub_e, sx_c_e] at this
          omega
      · rw [if_neg k, if_neg k]
        by_cases ki : sx_e r q.1.2 < 0
        · rw [if_pos ki, if_pos ki, f4]
        · rw [if_neg ki, if_neg ki]
          rw [show Nat.ble 100 q.1.1 = false from by
            cases e : Nat.ble 100 q.1.1 with
            | false => rfl
            | true => exact absurd (Nat.le_of_ble_eq_true e) k, cond_false] at q2
          rw [hI _ _ fun m hm' hm2 hz => ?_]
          have e := a0.2 _ _ (c1.resolve_right k) (hlt _ hm2) hz.1
          have w := List.all_eq_true.mp q2 m hm'
          rw [← e, Nat.beq_refl, Bool.not_true, Bool.false_or, Bool.or_eq_true] at w
          rcases w with w | w
          · have := sx_p_ok hn w
            rw [sx_sub_e, sx_c_e] at this
            omega
          · have := sx_p_ok hn w
            rw [sx_sub_e, sx_c_e] at this
            omega
  · rcases List.mem_append.mp hq with q1 | q1
    · obtain ⟨p, hp, rfl⟩ := List.mem_map.mp q1
      obtain ⟨⟨c1, c1'⟩, c2, c3⟩ := b4 p hp
      dsimp only
      rw [hsb]
      refine ⟨⟨hlt _ c1, ?_⟩, c2, ?_⟩
      · unfold sx_pr2
        split
        · exact Nat.zero_le _
        · rename_i j e
          have := hlt j (by omega)
          omega
      · rw [c3]
        unfold sx_pr2
        split
        · rename_i e; rw [e]; rfl
        · rename_i j e; rw [e]; rfl
    · obtain ⟨q1, q2⟩ := List.mem_filter.mp q1
      obtain ⟨c1, c2, c3⟩ := a4 q q1
      refine ⟨c1, c2, ?_⟩
      rw [← c3]
      refine f6 _ _ fun m hm' hm2 hz => ?_
      have e := a0.2 _ _ c1.1 (hlt _ hm2) hz.1
      have w := List.all_eq_true.mp q2 m hm'
      rw [← e, Nat.beq_refl, Bool.not_true, Bool.false_or] at w
      have := sx_nq_ok hn w
      rw [sx_c_e] at this
      have hz2 := hz.2
      omega
  · rcases List.mem_append.mp hq with q1 | q1
    · obtain ⟨b, hb, rfl⟩ := List.mem_map.mp q1
      obtain ⟨hb1, hb2⟩ := List.mem_filter.mp hb
      have hb2 : n0 ≤ b.1 := Nat.le_of_ble_eq_true hb2
      have k := b5 b hb1
      have e := hr b.1
      unfold sx_rf sx_zq at e
      rw [sx_nblt (by omega), cond_false, sx_s_e] at e
      dsimp only
      rw [e]
      exact k
    · exact a5 q q1
  · obtain ⟨g1, g5, g6, g7⟩ := a7
    refine ⟨⟨f1.trans g1.1, f2.trans g1.2.1, f3.trans g1.2.2.1, f4.trans g1.2.2.2⟩, fun a j hj => ?_, fun a j hj => ?_, fun a ha => ?_⟩
    · rw [← g5 a j hj]
      refine hI a j fun m hm' hm2 hz => ?_
      have w := List.all_eq_true.mp hm.1 m hm'
      rw [Bool.and_eq_true] at w
      obtain ⟨e, he, he2⟩ := List.any_eq_true.mp w.2
      rw [Bool.and_eq_true, Bool.and_eq_true, decide_eq_true_eq, decide_eq_true_eq] at he2
      have e3 := Nat.eq_of_beq_eq_true he2.1
      exact hj e he (by rw [e3]; exact hlt _ hm2) ⟨by rw [e3]; exact hz.1, by omega, by omega⟩
    · rw [← g6 a j hj]
      refine f6 a j fun m hm' hm2 hz => ?_
      have w := List.all_eq_true.mp hm.2 m hm'
      rw [Bool.and_eq_true] at w
      obtain ⟨e, he, he2⟩ := List.any_eq_true.mp w.2
      rw [Bool.and_eq_true] at he2
      have e3 := Nat.eq_of_beq_eq_true he2.1
      have e4 := Nat.eq_of_beq_eq_true he2.2
      exact hj e he (by rw [e3]; exact hlt _ hm2) ⟨by rw [e3]; exact hz.1, by rw [e4]; exact hz.2⟩
    · rw [← g7 a ha]
      exact f7 a fun g hg => ha _ (hlt g hg)
  · intro L hL
    obtain ⟨C, hC, rfl⟩ := List.mem_map.mp hL
    rw [hsb]
    exact b5' C hC
/-- what a call hands back -/
def sx_mV (gf : Nat → Nat) (z : Nat → sx_L) (v : sx_V) : sx_V := (v.1, bif Nat.beq v.1 2 then gf v.2.1 else v.2.1, sx_sb z v.2.2)
theorem sx_mV_ok {pl : Nat → Nat} {r rq : Nat → Int} {gf : Nat → Nat} {z : Nat → sx_L} {a : sx_V} {v : Value} (hr : ∀ L, sx_e r (sx_sb z L) = sx_e rq L) (h : sx_v (fun g => pl (gf g)) rq a v) : sx_v pl r (sx_mV gf z a) v := by
  obtain ⟨k, b, L⟩ := a
  unfold sx_v at h
  unfold sx_v sx_mV
  dsimp only at h ⊢
  rw [hr]
  split at h
  · exact h
  · exact h
  · exact h
  · exact h
  · exact h
  · exact h
  · exact h.elim
def sx_kck (E : sx_E) (K : sx_K) (ls : List (Nat × sx_V)) (st args : List sx_V) (o : sx_Z × sx_N) : Bool := sx_gd E && (Nat.ble E.2.1.length 100 && (Nat.ble K.2.2.1.length 100 && (sx_vD E (sx_gf o.1.1) 0 K.2.2.1 && (sx_nd ((List.range K.2.2.1.length).map (sx_gf o.1.1)) && (sx_vVs o.2 (sx_gf o.1.1) (sx_zf o.1.2) K.2.2.2.2.1 args && (sx_vN E K.2.2.1.length o.2 (sx_gf o.1.1) (sx_zf o.1.2) K.2.2.2.2.2.1 && (sx_vm E K.2.2.2.1.1 K.2.2.2.1.2 K.2.2.1.length (sx_gf o.1.1) && (K.2.2.2.2.2.2.all (fun p => sx_vg E (sx_gf o.1.1) p.2.1) && ((List.range K.2.2.2.2.2.1.2.2.2).all (fun i => sx_lw o.2.2.2.2 (sx_zf o.1.2 i)) && sx_fA E.2.2.2.2 ls st o.2)))))))))
def sx_kc (E : sx_E) (K : sx_K) (ls : List (Nat × sx_V)) (st args : List sx_V) (N : sx_N) : Option (sx_Z × sx_N) := match sx_rds E ls st K.2.2.2.2.2.1.1 (sx_bR N K.2.2.2.2.2.1.2.1 (sx_bVs K.2.2.2.2.1 args ([], []))) N with
  | some o => bif sx_kck E K ls st args o then some o else none
  | none => none
theorem sx_os_td {pl : Nat → Nat} {r : Nat → Int} : ∀ (n : Nat) {st : List sx_V} {cs : List Value}, sx_os pl r st cs → sx_os pl r (st.take n) (cs.take n) ∧ sx_os pl r (st.drop n) (cs.drop n)
  | 0, st, cs, h => ⟨trivial, h⟩
  | n + 1, [], [], _ => ⟨trivial, trivial⟩
  | n + 1, a :: t, v :: u, h => ⟨⟨h.1, (sx_os_td n h.2).1⟩, (sx_os_td n h.2).2⟩
  | _ + 1, [], _ :: _, h => h.elim
  | _ + 1, _ :: _, [], h => h.elim
theorem sx_os_ap {pl : Nat → Nat} {r : Nat → Int} : ∀ {s1 s2 : List sx_V} {c1 c2 : List Value}, sx_os pl r s1 c1 → sx_os pl r s2 c2 → sx_os pl r (s1 ++ s2) (c1 ++ c2)
  | [], _, [], _, _, h => h
  | _ :: _, _, _ :: _, _, h1, h2 => ⟨h1.1, sx_os_ap h1.2 h2⟩
  | [], _, _ :: _, _, h, _ => h.elim
  | _ :: _, _, [], _, h, _ => h.elim
theorem sx_os_rv {pl : Nat → Nat} {r : Nat → Int} : ∀ {st : List sx_V} {cs : List Value}, sx_os pl r st cs → sx_os pl r st.reverse cs.reverse
  | [], [], _ => trivial
  | a :: t, v :: u, h => by
    rw [List.reverse_cons, List.reverse_cons]
    exact sx_os_ap (sx_os_rv h.2) ⟨h.1, trivial⟩
  | [], _ :: _, h => h.elim
  | _ :: _, [], h => h.elim
theorem sx_kc_ok {X : nt_X} {E : sx_E} {F : sx_F} {r : Nat → Int} {K : sx_K} {d n : Nat} {ls : List (Nat × sx_V)} {st : List sx_V} {N : sx_N} {cl : nt_V} {cs : List Value} {M : nt_M} {o : sx_Z × sx_N} (hG : F.2.2.2 = sx_GG E.1) (hK : sx_KOK X E.1 K) (hd : K.2.1 ≤ d) (h : sx_kc E K ls st (st.take n).reverse N = some o) (h1 : sx_ol F.1 r ls cl) (h2 : sx_os F.1 r st cs) (h3 : sx_on E F r N M) : ∃ out, nt_ev X d K.1 (cs.take n).reverse M out ∧ ∃ p ∈ K.2.2.2.2.2.2, ∃ r2, sx_ol F.1 r2 ls cl ∧ sx_os F.1 r2 st cs ∧ sx_ov F.1 r2 (p.1.map (sx_mV (sx_gf o.1.1) (sx_zq (sx_zf o.1.2) K.2.2.2.2.2.1.2.2.2 o.2.2.2.2))) out.1 ∧ sx_on E F r2 (sx_pst E K.2.2.2.1.1 K.2.2.2.1.2 K.2.2.2.2.2.1.2.2.2 (sx_gf o.1.1) (sx_zf o.1.2) o.2 p.2) out.2 := by
  unfold sx_kc at h
  split at h
  · rename_i o1 ho
    obtain ⟨hc, h⟩ := sx_bif h
    cases h
    unfold sx_kck at hc
    simp only [Bool.and_eq_true] at hc
    obtain ⟨v0, v1, v2, v3, v4, v5, v6, v7, v8, v9, v10⟩ := hc
    obtain ⟨r1, k1, k2, k3⟩ := sx_rds_ok _ _ _ _ ho h1 h2 h3
    have v1 : E.2.1.length ≤ 100 := Nat.le_of_ble_eq_true v1
    have v2 : K.2.2.1.length ≤ 100 := Nat.le_of_ble_eq_true v2
    have hD : ∀ k q, (sx_KE E.1 K).2.1[k]? = some q → E.2.1[sx_gf o.1.1 k]? = some q := fun k q hq => by
      have := sx_vD_ok _ _ v3 k q hq
      rw [Nat.zero_add] at this
      exact this
    have hlt : ∀ k, k < K.2.2.1.length → sx_gf o.1.1 k < E.2.1.length := fun k hk => by
      have e := List.getElem?_eq_getElem hk
      exact (List.getElem?_eq_some_iff.mp (hD k _ e)).1
    have hargs := sx_vVs_ok k3 v5 (sx_os_rv (sx_os_td n k2).1)
    obtain ⟨w1, w2, w3, w4⟩ := sx_vN_ok (EK := sx_KE E.1 K) M (sx_rf r1 (sx_zf o.1.2)) k3 v6
    have hon : sx_on (sx_KE E.1 K) (fun g => F.1 (sx_gf o.1.1 g), M, sx_rf r1 (sx_zf o.1.2), F.2.2.2) (sx_rf r1 (sx_zf o.1.2)) K.2.2.2.2.2.1 M := by
      refine ⟨⟨k3.1.1, fun g h hg hh e => ?_⟩, ⟨k3.2.1.1, fun g q hq => k3.2.1.2 _ q (hD g q hq)⟩, w1, w2, ⟨w3, w4⟩, fun s _ => rfl, sx_fm_rf⟩
      exact sx_inj_ok v4 hg hh (k3.1.2 _ _ (hlt g hg) (hlt h hh) e)
    obtain ⟨out, hev, p, hp, rq, hov, hpo⟩ := hK (fun g => F.1 (sx_gf o.1.1 g), M, sx_rf r1 (sx_zf o.1.2), F.2.2.2) (sx_rf r1 (sx_zf o.1.2)) _ M d hd rfl rfl hG hargs hon
    have hup : ∀ s, s < o.2.2.2.2 → (fun s => if s < o.2.2.2.2 then r1 s else rq (s - o.2.2.2.2 + K.2.2.2.2.2.1.2.2.2)) s = r1 s := fun s hs => if_pos hs
    have hr : ∀ i, sx_rf (fun s => if s < o.2.2.2.2 then r1 s else rq (s - o.2.2.2.2 + K.2.2.2.2.2.1.2.2.2)) (sx_zq (sx_zf o.1.2) K.2.2.2.2.2.1.2.2.2 o.2.2.2.2) i = rq i := by
      intro i
      unfold sx_rf sx_zq
      by_cases hi : i < K.2.2.2.2.2.1.2.2.2
      · rw [sx_blt hi, cond_true, sx_e_up hup (List.all_eq_true.mp v9 i (List.mem_range.mpr hi))]
        exact (hpo.2.2.2.2.2.1 i hi).symm
      · rw [sx_nblt hi, cond_false, sx_s_e]
        show (if o.2.2.2.2 + (i - K.2.2.2.2.2.1.2.2.2) < o.2.2.2.2 then _ else _) = _
        rw [if_neg (by omega)]
        congr 1
        omega
    unfold sx_fA at v10
    rw [Bool.and_eq_true, Bool.and_eq_true] at v10
    obtain ⟨x1, x2, x3⟩ := v10
    refine ⟨out, hev, p, hp, _, sx_ol_up hup x1 k1, sx_os_up hup _ _ x2 k2, ?_, sx_pst_ok (EK := sx_KE E.1 K) rfl v0 v1 v2 hD v7 (List.all_eq_true.mp v8 p hp) hr (sx_on_up hup x3 k3) hpo⟩
    have hrf : sx_rf (fun s => if s < o.2.2.2.2 then r1 s else rq (s - o.2.2.2.2 + K.2.2.2.2.2.1.2.2.2)) (sx_zq (sx_zf o.1.2) K.2.2.2.2.2.1.2.2.2 o.2.2.2.2) = rq := funext hr
    have hq : ∀ L, sx_e (fun s => if s < o.2.2.2.2 then r1 s else rq (s - o.2.2.2.2 + K.2.2.2.2.2.1.2.2.2)) (sx_sb (sx_zq (sx_zf o.1.2) K.2.2.2.2.2.1.2.2.2 o.2.2.2.2) L) = sx_e rq L := fun L => by rw [sx_sb_e, hrf]
    cases hp1 : p.1 with
    | none =>
      rw [hp1] at hov
      cases ho1 : out.1 with
      | none => exact trivial
      | some v => rw [ho1] at hov; exact hov.elim
    | some a =>
      rw [hp1] at hov
      cases ho1 : out.1 with
      | none => rw [ho1] at hov; exact hov.elim
      | some v => rw [ho1] at hov; exact sx_mV_ok hq hov
  · cases h
