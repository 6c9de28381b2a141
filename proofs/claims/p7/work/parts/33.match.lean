/-! contracts, and states held against them -/
abbrev sx_K : Type := Nat × Nat × sx_D × (List (Nat × Int × Int) × List (Nat × Nat)) × List sx_V × sx_N × List (Option sx_V × sx_N)
def sx_KE (T : List sx_T × List (List Nat)) (K : sx_K) : sx_E := (T, K.2.2.1, K.2.2.2.1.1, K.2.2.2.1.2, K.2.2.2.2.2.1.2.2.2)
/-- the method keeps the contract -/
def sx_KOK (X : nt_X) (T : List sx_T × List (List Nat)) (K : sx_K) : Prop := ∀ (F : sx_F) (r : Nat → Int) (vs : List Value) (M : nt_M) (d : Nat), K.2.1 ≤ d → F.2.1 = M → F.2.2.1 = r → F.2.2.2 = sx_GG T → sx_os F.1 r K.2.2.2.2.1 vs → sx_on (sx_KE T K) F r K.2.2.2.2.2.1 M → ∃ o, nt_ev X d K.1 vs M o ∧ ∃ p ∈ K.2.2.2.2.2.2, ∃ r', sx_ov F.1 r' p.1 o.1 ∧ sx_on (sx_KE T K) F r' p.2 o.2
def sx_sm (z : Nat → sx_L) : List (Nat × Int) → sx_L
  | [] => (0, [])
  | q :: t => sx_add (sx_mul q.2 (z q.1)) (sx_sm z t)
/-- sums put for unknowns -/
def sx_sb (z : Nat → sx_L) (L : sx_L) : sx_L := sx_add (L.1, []) (sx_sm z L.2)
def sx_rf (r : Nat → Int) (z : Nat → sx_L) (s : Nat) : Int := sx_e r (z s)
theorem sx_sm_e (r : Nat → Int) (z : Nat → sx_L) : ∀ l, sx_e r (sx_sm z l) = sx_t (sx_rf r z) l
  | [] => rfl
  | q :: t => by
    show sx_e r (sx_add (sx_mul q.2 (z q.1)) (sx_sm z t)) = q.2 * sx_rf r z q.1 + sx_t (sx_rf r z) t
    rw [sx_add_e, sx_mul_e, sx_sm_e r z t]; rfl
theorem sx_sb_e (r : Nat → Int) (z : Nat → sx_L) (L : sx_L) : sx_e r (sx_sb z L) = sx_e (sx_rf r z) L := by
  unfold sx_sb
  rw [sx_add_e, sx_c_e, sx_sm_e]; rfl
abbrev sx_Z : Type := List (Nat × Nat) × List (Nat × sx_L)
def sx_zl : List (Nat × sx_L) → Nat → Option sx_L
  | [], _ => none
  | q :: t, s => bif Nat.beq q.1 s then some q.2 else sx_zl t s
def sx_zf (z : List (Nat × sx_L)) (s : Nat) : sx_L := match sx_zl z s with
  | some L => L
  | none => (0, [])
def sx_gl : List (Nat × Nat) → Nat → Option Nat
  | [], _ => none
  | q :: t, s => bif Nat.beq q.1 s then some q.2 else sx_gl t s
def sx_gf (z : List (Nat × Nat)) (s : Nat) : Nat := match sx_gl z s with
  | some g => g
  | none => 99
def sx_b1 (z : List (Nat × sx_L)) : List (Nat × Int) → Option Nat
  | [] => none
  | q :: t => match sx_zl z q.1 with
    | none => bif decide (q.2 = 1) then some q.1 else sx_b1 z t
    | some _ => sx_b1 z t
def sx_bz (z : List (Nat × sx_L)) (p a : sx_L) : List (Nat × sx_L) := match sx_b1 z p.2 with
  | none => z
  | some u => (u, sx_sub a (sx_sb (sx_zf ((u, (0, [])) :: z)) p)) :: z
def sx_bg (z : List (Nat × Nat)) (g h : Nat) : List (Nat × Nat) := match sx_gl z g with
  | some _ => z
  | none => (g, h) :: z
def sx_bV (zs : sx_Z) (p a : sx_V) : sx_Z := match p.1 with
  | 0 => (zs.1, sx_bz zs.2 p.2.2 a.2.2)
  | 1 => (zs.1, sx_bz zs.2 p.2.2 a.2.2)
  | 2 => (sx_bg zs.1 p.2.1 a.2.1, zs.2)
  | _ => zs
def sx_bVs : List sx_V → List sx_V → sx_Z → sx_Z
  | p :: t, a :: u, zs => sx_bVs t u (sx_bV zs p a)
  | _, _, zs => zs
def sx_bR (N : sx_N) : sx_R → sx_Z → sx_Z
  | [], zs => zs
  | q :: t, zs => match sx_gtR (sx_gf zs.1 q.1.1) (sx_sb (sx_zf zs.2) q.1.2) N.2.1, q.2 with
    | some (k + 1), j + 1 => sx_bR N t (sx_bg zs.1 j k, zs.2)
    | _, _ => sx_bR N t zs
/-- a ghost that is known, wherever -/
def sx_gho (g : Nat) : sx_I → Option (sx_L × sx_L)
  | [] => none
  | q :: t => bif Nat.beq q.1.1 g then some (q.1.2, q.2) else sx_gho g t
/-- ints that are looked up or read -/
def sx_rds (E : sx_E) (ls : List (Nat × sx_V)) (st : List sx_V) : sx_I → sx_Z → sx_N → Option (sx_Z × sx_N)
  | [], zs, N => some (zs, N)
  | q :: t, zs, N => match sx_get (bif Nat.blt q.1.1 100 then sx_gf zs.1 q.1.1 else q.1.1) (sx_sb (sx_zf zs.2) q.1.2) N.1 with
    | some v => sx_rds E ls st t (zs.1, sx_bz zs.2 q.2 v) N
    | none => bif Nat.ble 100 q.1.1 then (match sx_gho q.1.1 N.1 with
      | some w => sx_rds E ls st t (zs.1, sx_bz (sx_bz zs.2 q.1.2 w.1) q.2 w.2) N
      | none => none) else bif sx_p N (sx_sb (sx_zf zs.2) q.1.2) then (match sx_rdc E (bif Nat.blt q.1.1 100 then sx_gf zs.1 q.1.1 else q.1.1) (sx_sb (sx_zf zs.2) q.1.2) ls st N with
      | some o => sx_rds E ls st t (zs.1, sx_bz zs.2 q.2 o.1) o.2
      | none => none) else none
theorem sx_rds_ok {E : sx_E} {F : sx_F} {ls : List (Nat × sx_V)} {st : List sx_V} {cl : nt_V} {cs : List Value} {M : nt_M} {o : sx_Z × sx_N} : ∀ (l : sx_I) (zs : sx_Z) (N : sx_N) (r : Nat → Int), sx_rds E ls st l zs N = some o → sx_ol F.1 r ls cl → sx_os F.1 r st cs → sx_on E F r N M → ∃ r', sx_ol F.1 r' ls cl ∧ sx_os F.1 r' st cs ∧ sx_on E F r' o.2 M
  | [], zs, N, r, h, h1, h2, h3 => by cases h; exact ⟨r, h1, h2, h3⟩
  | q :: t, zs, N, r, h, h1, h2, h3 => by
    unfold sx_rds at h
    split at h
    · exact sx_rds_ok t _ N r h h1 h2 h3
    · cases eg : Nat.ble 100 q.1.1 with
      | true =>
        rw [eg, cond_true] at h
        split at h
        · exact sx_rds_ok t _ N r h h1 h2 h3
        · cases h
      | false =>
      rw [eg, cond_false] at h
      obtain ⟨hp, h⟩ := sx_bif h
      split at h
      · rename_i o1 ho
        obtain ⟨v, N1⟩ := o1
        obtain ⟨r', k1, k2, k3, -⟩ := sx_rdc_ok ho h1 h2 h3 (sx_p_ok h3 hp)
        exact sx_rds_ok t _ _ r' h k1 k2 k3
      · cases h
def sx_qe (N : sx_N) (a b : sx_L) : Bool := sx_leq a b || (sx_p N (sx_sub a b) && sx_p N (sx_sub b a))
theorem sx_qe_ok {E : sx_E} {F : sx_F} {r : Nat → Int} {N : sx_N} {M : nt_M} {a b : sx_L} (h3 : sx_on E F r N M) (h : sx_qe N a b = true) : sx_e r a = sx_e r b := by
  unfold sx_qe at h
  rw [Bool.or_eq_true, Bool.and_eq_true] at h
  rcases h with h | ⟨h, k⟩
  · rw [sx_leq_ok h]
  · have x := sx_p_ok h3 h
    have y := sx_p_ok h3 k
    rw [sx_sub_e] at x y
    omega
def sx_vV (N : sx_N) (gf : Nat → Nat) (zf : Nat → sx_L) (p a : sx_V) : Bool := match p.1 with
  | 0 => Nat.beq a.1 0 && sx_qe N (sx_sb zf p.2.2) a.2.2
  | 1 => Nat.beq a.1 1 && sx_qe N (sx_sb zf p.2.2) a.2.2
  | 2 => Nat.beq a.1 2 && Nat.beq (gf p.2.1) a.2.1
  | 3 => Nat.beq a.1 3
  | 5 => Nat.beq a.1 5 && Nat.beq p.2.1 a.2.1
  | _ => false
theorem sx_vV_ok {E : sx_E} {F : sx_F} {r : Nat → Int} {N : sx_N} {M : nt_M} {gf : Nat → Nat} {zf : Nat → sx_L} {p a : sx_V} {v : Value} (h3 : sx_on E F r N M) (h : sx_vV N gf zf p a = true) (hv : sx_v F.1 r a v) : sx_v (fun g => F.1 (gf g)) (sx_rf r zf) p v := by
  obtain ⟨pk, pb, pL⟩ := p
  obtain ⟨ak, ab, aL⟩ := a
  unfold sx_vV at h
  dsimp only at h
  split at h
  · rw [Bool.and_eq_true] at h
    have e : ak = 0 := Nat.eq_of_beq_eq_true h.1
    subst e
    obtain ⟨x, rfl, hx⟩ := hv
    have q := sx_qe_ok h3 h.2
    rw [sx_sb_e] at q
    exact ⟨x, rfl, by rw [hx]; exact q.symm⟩
  · rw [Bool.and_eq_true] at h
    have e : ak = 1 := Nat.eq_of_beq_eq_true h.1
    subst e
    obtain ⟨x, rfl, hx⟩ := hv
    have q := sx_qe_ok h3 h.2
    rw [sx_sb_e] at q
    exact ⟨x, rfl, by rw [hx]; exact q.symm⟩
  · rw [Bool.and_eq_true] at h
    have e : ak = 2 := Nat.eq_of_beq_eq_true h.1
    have e2 : gf pb = ab := Nat.eq_of_beq_eq_true h.2
    subst e
    have hv : v = .ref (F.1 ab) := hv
    rw [← e2] at hv
    exact hv
  · have e : ak = 3 := Nat.eq_of_beq_eq_true h
    subst e
    exact hv
  · rw [Bool.and_eq_true] at h
    have e : ak = 5 := Nat.eq_of_beq_eq_true h.1
    have e2 : pb = ab := Nat.eq_of_beq_eq_true h.2
    subst e
    subst e2
    exact hv
  · cases h
def sx_vVs (N : sx_N) (gf : Nat → Nat) (zf : Nat → sx_L) : List sx_V → List sx_V → Bool
  | [], [] => true
  | p :: t, a :: u => sx_vV N gf zf p a && sx_vVs N gf zf t u
  | _, _ => false
theorem sx_vVs_ok {E : sx_E} {F : sx_F} {r : Nat → Int} {N : sx_N} {M : nt_M} {gf : Nat → Nat} {zf : Nat → sx_L} (h3 : sx_on E F r N M) : ∀ {ps as : List sx_V} {vs : List Value}, sx_vVs N gf zf ps as = true → sx_os F.1 r as vs → sx_os (fun g => F.1 (gf g)) (sx_rf r zf) ps vs
  | [], [], [], _, _ => trivial
  | p :: t, a :: u, v :: w, h, hv => by
    unfold sx_vVs at h
    rw [Bool.and_eq_true] at h
    exact ⟨sx_vV_ok h3 h.1 hv.1, sx_vVs_ok h3 h.2 hv.2⟩
  | _, a :: u, [], _, hv => hv.elim
  | _, [], v :: w, _, hv => hv.elim
  | [], _ :: _, _, h, _ => by cases h
  | _ :: _, [], _, h, _ => by cases h
/-- the rest of a pattern holds -/
def sx_vN (E : sx_E) (n : Nat) (N : sx_N) (gf : Nat → Nat) (zf : Nat → sx_L) (P : sx_N) : Bool :=
  P.1.all (fun q => match sx_get (bif Nat.blt q.1.1 100 then gf q.1.1 else q.1.1) (sx_sb zf q.1.2) N.1 with
    | some v => sx_qe N (sx_sb zf q.2) v && (bif Nat.blt q.1.1 100 then Nat.blt q.1.1 n && Nat.blt (gf q.1.1) 100 else (E.1.2.getD (q.1.1 - 100) []).all (fun h => Nat.beq (gf h) h))
    | none => false) &&
  (P.2.1.all (fun q => Nat.blt q.1.1 n && (Nat.ble q.2 n && (match sx_gtR (gf q.1.1) (sx_sb zf q.1.2) N.2.1 with
    | some k => Nat.beq k (match q.2 with | 0 => 0 | j + 1 => gf j + 1)
    | none => false))) &&
  (P.2.2.1.1.all (fun b => sx_p N (sx_sub (zf b.1) (b.2.1, [])) && sx_p N (sx_sub (b.2.2, []) (zf b.1))) &&
  P.2.2.1.2.all (fun C => sx_p N (sx_sb zf C))))
theorem sx_vN_ok {E EK : sx_E} {F : sx_F} {r : Nat → Int} {N P : sx_N} {M : nt_M} {gf : Nat → Nat} {zf : Nat → sx_L} (M0 : nt_M) (r0 : Nat → Int) (h3 : sx_on E F r N M) (h : sx_vN E EK.2.1.length N gf zf P = true) : sx_oi EK (fun g => F.1 (gf g), M0, r0, F.2.2.2) (sx_rf r zf) P.1 M ∧ sx_or EK (fun g => F.1 (gf g)) (sx_rf r zf) P.2.1 M ∧ sx_ob (sx_rf r zf) P.2.2.1.1 ∧ sx_oc (sx_rf r zf) P.2.2.1.2 := by
  unfold sx_vN at h
  rw [Bool.and_eq_true, Bool.and_eq_true, Bool.and_eq_true] at h
  obtain ⟨l1, l2, l3, l4⟩ := h
  refine ⟨fun q hq => ?_, fun q hq => ?_, fun b hb => ?_, fun C hC => ?_⟩
  · have l := List.all_eq_true.mp l1 q hq
    split at l
    · rename_i v hv
      rw [Bool.and_eq_true] at l
      have e1 := sx_qe_ok h3 l.1
      have e2 := (h3.2.2.1 _ (sx_get_in hv)).2
      dsimp only at e2
      rw [sx_sb_e] at e1 e2
      cases e : Nat.blt q.1.1 100 with
      | true =>
        rw [e, cond_true] at l e2
        rw [Bool.and_eq_true] at l
        have g1 : q.1.1 < EK.2.1.length := Nat.blt_eq.mp l.2.1
        have g2 : gf q.1.1 < 100 := Nat.blt_eq.mp l.2.2
        have g3 : q.1.1 < 100 := Nat.blt_eq.mp e
        refine ⟨Or.inl g1, ?_⟩
        rw [e1, ← e2]
        unfold sx_rd
        have n1 : ¬ 100 ≤ q.1.1 := by omega
        have n2 : ¬ 100 ≤ gf q.1.1 := by omega
        rw [if_neg n1, if_neg n2]
      | false =>
        rw [e, cond_false] at l e2
        have g3 : 100 ≤ q.1.1 := by
          have : ¬ q.1.1 < 100 := fun k => by rw [sx_blt k] at e; cases e
          omega
        refine ⟨Or.inr g3, ?_⟩
        rw [e1, ← e2]
        unfold sx_rd
        rw [if_pos g3, if_pos g3]
        refine h3.1.1 _ _ _ _ fun h' hh j hj => ?_
        have := Nat.eq_of_beq_eq_true (List.all_eq_true.mp l.2 h' hh)
        show nt_I M (F.1 (gf h')) j = nt_I M (F.1 h') j
        rw [this]
    · cases l
  · have l := List.all_eq_true.mp l2 q hq
    rw [Bool.and_eq_true, Bool.and_eq_true] at l
    obtain ⟨a1, a2, a3⟩ := l
    have a1 : q.1.1 < EK.2.1.length := Nat.blt_eq.mp a1
    have a2 : q.2 ≤ EK.2.1.length := Nat.le_of_ble_eq_true a2
    split at a3
    · rename_i k hk
      have a3 := Nat.eq_of_beq_eq_true a3
      obtain ⟨b1, b2, b3⟩ := h3.2.2.2.1 _ (sx_gtR_in hk)
      dsimp only at b2 b3
      rw [sx_sb_e] at b2 b3
      refine ⟨⟨a1, a2⟩, b2, ?_⟩
      rw [b3, a3]
      obtain ⟨q1, q2⟩ := q
      cases q2 with
      | zero => rfl
      | succ j => rfl
    · cases a3
  · have l := List.all_eq_true.mp l3 b hb
    rw [Bool.and_eq_true] at l
    have x := sx_p_ok h3 l.1
    have y := sx_p_ok h3 l.2
    rw [sx_sub_e, sx_c_e] at x y
    unfold sx_rf
    omega
  · have l := sx_p_ok h3 (List.all_eq_true.mp l4 C hC)
    rw [sx_sb_e] at l
    exact l
def sx_deq (p q : Nat × Int × Int × Nat) : Bool := Nat.beq p.1 q.1 && (decide (p.2.1 = q.2.1) && (decide (p.2.2.1 = q.2.2.1) && Nat.beq p.2.2.2 q.2.2.2))
theorem sx_deq_ok {p q : Nat × Int × Int × Nat} (h : sx_deq p q = true) : p = q := by
  unfold sx_deq at h
  rw [Bool.and_eq_true, Bool.and_eq_true, Bool.and_eq_true, decide_eq_true_eq, decide_eq_true_eq] at h
  exact Prod.ext (Nat.eq_of_beq_eq_true h.1) (Prod.ext h.2.1 (Prod.ext h.2.2.1 (Nat.eq_of_beq_eq_true h.2.2.2)))
/-- regions are regions of ours, and others are others -/
def sx_vD (E : sx_E) (gf : Nat → Nat) : Nat → sx_D → Bool
  | _, [] => true
  | i, q :: t => (match E.2.1[gf i]? with | some p => sx_deq p q | none => false) && sx_vD E gf (i + 1) t
theorem sx_vD_ok {E : sx_E} {gf : Nat → Nat} : ∀ (l : sx_D) (i : Nat), sx_vD E gf i l = true → ∀ k q, l[k]? = some q → E.2.1[gf (i + k)]? = some q
  | [], _, _, k, q, h => by cases k <;> cases h
  | p :: t, i, h, k, q, hk => by
    unfold sx_vD at h
    rw [Bool.and_eq_true] at h
    cases k with
    | zero =>
      have e : some p = some q := hk
      cases e
      have h1 := h.1
      split at h1
      · rename_i p' hp
        rw [← sx_deq_ok h1]
        exact hp
      · cases h1
    | succ k =>
      have := sx_vD_ok t (i + 1) h.2 k q hk
      rw [show i + (k + 1) = i + 1 + k from by omega]
      exact this
def sx_nd : List Nat → Bool
  | [] => true
  | a :: t => t.all (fun b => !Nat.beq a b) && sx_nd t
theorem sx_nd_ok : ∀ (l : List Nat), sx_nd l = true → ∀ (i j a : Nat), l[i]? = some a → l[j]? = some a → i = j
  | [], _, i, j, a, h, _ => by cases i <;> cases h
  | b :: t, h, i, j, a, hi, hj => by
    unfold sx_nd at h
    rw [Bool.and_eq_true] at h
    have key : ∀ k, t[k]? = some b → False := fun k hk => by
      have := List.all_eq_true.mp h.1 b (List.mem_of_getElem? hk)
      rw [Nat.beq_refl] at this
      cases this
    cases i with
    | zero =>
      have e : some b = some a := hi
      cases e
      cases j with
      | zero => rfl
      | succ j => exact (key j hj).elim
    | succ i =>
      cases j with
      | zero =>
        have e : some b = some a := hj
        cases e
        exact (key i hi).elim
      | succ j => rw [sx_nd_ok t h.2 i j a hi hj]
theorem sx_inj_ok {gf : Nat → Nat} {n : Nat} (h : sx_nd ((List.range n).map gf) = true) {i j : Nat} (hi : i < n) (hj : j < n) (e : gf i = gf j) : i = j := by
  refine sx_nd_ok _ h i j (gf j) ?_ ?_
  · rw [List.getElem?_map, List.getElem?_range hi, ← e]; rfl
  · rw [List.getElem?_map, List.getElem?_range hj]; rfl
