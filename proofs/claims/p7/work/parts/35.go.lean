/-! runs over states told by sums -/
abbrev sx_G : Type := List (sx_A ⊕ (Option sx_V × sx_N))
def sx_W (X : nt_X) (d mi : Nat) (Q : Option Value × nt_M → Prop) (c : nt_C) : Prop := ∃ o, nt_rn X d mi c o ∧ Q o
def sx_cat {α : Type} : List (Option (List α)) → Option (List α)
  | [] => some []
  | none :: _ => none
  | some a :: t => match sx_cat t with
    | some b => some (a ++ b)
    | none => none
theorem sx_cat_ok {α : Type} : ∀ {l : List (Option (List α))} {o : List α}, sx_cat l = some o → ∀ x ∈ l, ∃ a, x = some a ∧ ∀ z ∈ a, z ∈ o
  | [], _, _, _, h => by cases h
  | none :: _, _, h, _, _ => by cases h
  | some a :: t, o, h, x, hx => by
    unfold sx_cat at h
    split at h
    · rename_i b hb
      cases h
      rcases List.mem_cons.mp hx with e | e
      · exact ⟨a, e, fun z hz => List.mem_append_left _ hz⟩
      · obtain ⟨a', e1, e2⟩ := sx_cat_ok hb x e
        exact ⟨a', e1, fun z hz => List.mem_append_right _ (e2 z hz)⟩
    · cases h
def sx_rts : sx_G → Option (List (Option sx_V × sx_N))
  | [] => some []
  | .inr o :: t => (match sx_rts t with
    | some l => some (o :: l)
    | none => none)
  | .inl _ :: _ => none
theorem sx_rts_ok : ∀ {G : sx_G} {l : List (Option sx_V × sx_N)}, sx_rts G = some l → (∀ A, .inl A ∈ G → False) ∧ ∀ o, .inr o ∈ G → o ∈ l
  | [], l, _ => ⟨fun _ h => (by cases h), fun _ h => (by cases h)⟩
  | .inr o :: t, l, h => by
    unfold sx_rts at h
    split at h
    · rename_i l1 hl
      cases h
      obtain ⟨a, b⟩ := sx_rts_ok hl
      refine ⟨fun A hA => ?_, fun p hp => ?_⟩
      · rcases List.mem_cons.mp hA with e | e
        · cases e
        · exact a A e
      · rcases List.mem_cons.mp hp with e | e
        · cases e; exact List.mem_cons_self ..
        · exact List.mem_cons_of_mem _ (b p e)
    · cases h
  | .inl _ :: _, _, h => by cases h
def sx_args : Nat → List sx_V → List (Nat × sx_V)
  | _, [] => []
  | i, v :: t => (i, v) :: sx_args (bif sx_c2 v then i + 2 else i + 1) t
theorem sx_args_ge : ∀ {l : List sx_V} {i : Nat} {q : Nat × sx_V}, q ∈ sx_args i l → i ≤ q.1
  | [], _, _, h => by cases h
  | v :: t, i, q, h => by
    rcases List.mem_cons.mp h with e | e
    · rw [e]; exact Nat.le_refl _
    · have := sx_args_ge e
      cases k : sx_c2 v with
      | true => rw [k, cond_true] at this; omega
      | false => rw [k, cond_false] at this; omega
theorem sx_args_ok {pl : Nat → Nat} {r : Nat → Int} : ∀ {l : List sx_V} {vs : List Value} (i : Nat), sx_os pl r l vs → sx_ol pl r (sx_args i l) (lv_args i vs)
  | [], [], _, _ => fun _ h => by cases h
  | a :: t, v :: u, i, h => by
    intro q hq
    have c := sx_c2_ok h.1
    show ∃ w, nt_lk ((i, v) :: lv_args (if v.category = 2 then i + 2 else i + 1) u) q.1 = some w ∧ _
    rcases List.mem_cons.mp hq with e | e
    · rw [e]
      refine ⟨v, ?_, h.1⟩
      unfold nt_lk
      rw [if_pos rfl]
    · have g := sx_args_ge e
      have e2 : (if v.category = 2 then i + 2 else i + 1) = (bif sx_c2 a then i + 2 else i + 1) := by
        rw [c]
        cases sx_c2 a <;> rfl
      have g2 : ¬ i = q.1 := by
        cases k : sx_c2 a with
        | true => rw [k, cond_true] at g; omega
        | false => rw [k, cond_false] at g; omega
      unfold nt_lk
      rw [if_neg g2, e2]
      exact sx_args_ok _ h.2 q e
  | [], _ :: _, _, h => h.elim
  | _ :: _, [], _, h => h.elim
theorem sx_sl_len {pl : Nat → Nat} {r : Nat → Int} : ∀ {l : List sx_V} {vs : List Value}, sx_os pl r l vs → (lg_sl vs).length = sx_ct l
  | [], [], _ => rfl
  | a :: t, v :: u, h => by
    have c := sx_c2_ok h.1
    have e := sx_sl_len h.2
    unfold lg_sl at e ⊢
    rw [List.flatMap_cons, List.length_append, e]
    show _ = (bif sx_c2 a then 2 else 1) + sx_ct t
    cases k : sx_c2 a with
    | true =>
      rw [k] at c
      have c : v.category = 2 := c
      rw [if_pos c]; rfl
    | false =>
      rw [k] at c
      have c : v.category = 1 := c
      rw [if_neg (by rw [c]; decide)]; rfl
  | [], _ :: _, h => h.elim
  | _ :: _, [], h => h.elim
theorem sx_ct_rv : ∀ (l : List sx_V), sx_ct l.reverse = sx_ct l := by
  have ap : ∀ (a b : List sx_V), sx_ct (a ++ b) = sx_ct a + sx_ct b := by
    intro a b
    induction a with
    | nil => rw [List.nil_append]; show _ = 0 + _; omega
    | cons v t ih => show (bif sx_c2 v then 2 else 1) + sx_ct (t ++ b) = (bif sx_c2 v then 2 else 1) + sx_ct t + sx_ct b; rw [ih]; omega
  intro l
  induction l with
  | nil => rfl
  | cons v t ih => rw [List.reverse_cons, ap, ih]; show sx_ct t + ((bif sx_c2 v then 2 else 1) + 0) = (bif sx_c2 v then 2 else 1) + sx_ct t; omega
def sx_rcv (E : sx_E) (own : Nat) : List sx_V → Bool
  | (2, a, _) :: _ => (match E.2.1[a]? with
    | some p => Nat.beq p.1 own
    | none => false)
  | _ => false
/-- how many values a call takes -/
def sx_na (g q : Nat) : Nat := (nt_m g).2.2.2.2.2.1 + (if q = 0 then 0 else 1)
def sx_cq (E : sx_E) (dl g q : Nat) (st : List sx_V) : Bool := Nat.ble 1 dl && (Nat.blt g 239 && (Nat.beq (nt_m g).2.2.2.2.2.2.1 q && (Nat.ble (sx_na g q) st.length && (Nat.ble (sx_ct (st.take (sx_na g q))) (nt_m g).2.2.1 && (Nat.ble (sx_ct (st.drop (sx_na g q))) 8 && (bif Nat.beq q 1 then sx_rcv E (nt_m g).2.2.2.2.1 (st.take (sx_na g q)).reverse else Nat.beq q 0))))))
theorem sx_cq_ok {E : sx_E} {F : sx_F} {r : Nat → Int} {N : sx_N} {M : nt_M} {dl g q : Nat} {st : List sx_V} {cs : List Value} (h : sx_cq E dl g q st = true) (h2 : sx_os F.1 r st cs) (h3 : sx_on E F r N M) : 1 ≤ dl ∧ (q = 0 ∨ q = 1) ∧ nt_cq g q cs = some ((cs.take (sx_na g q)).reverse, cs.drop (sx_na g q)) ∧ (q = 1 → nt_rc M (nt_m g).2.2.2.2.1 (cs.take (sx_na g q)).reverse = true) := by
  unfold sx_cq at h
  simp only [Bool.and_eq_true] at h
  obtain ⟨c1, c2, c3, c4, c5, c6, c7⟩ := h
  have c2 : g < 239 := Nat.blt_eq.mp c2
  have c3 := Nat.eq_of_beq_eq_true c3
  have c4 := Nat.le_of_ble_eq_true c4
  have c5 := Nat.le_of_ble_eq_true c5
  have c6 := Nat.le_of_ble_eq_true c6
  obtain ⟨t1, t2⟩ := sx_os_td (sx_na g q) h2
  have t3 := sx_os_rv t1
  refine ⟨Nat.le_of_ble_eq_true c1, ?_, ?_, fun e => ?_⟩
  · cases k : Nat.beq q 1 with
    | true => exact Or.inr (Nat.eq_of_beq_eq_true k)
    | false => rw [k, cond_false] at c7; exact Or.inl (Nat.eq_of_beq_eq_true c7)
  · unfold nt_cq
    rw [show (nt_m g).2.2.2.2.2.1 + (if q = 0 then 0 else 1) = sx_na g q from rfl, if_pos]
    refine ⟨c2, c3, ?_, ?_, ?_⟩
    · rw [sx_os_len h2]; exact c4
    · rw [sx_sl_len t3, sx_ct_rv]; exact c5
    · rw [sx_ct_ok t2]; exact c6
  · rw [e] at c7 t3
    rw [show Nat.beq 1 1 = true from rfl, cond_true] at c7
    rw [e]
    generalize (st.take (sx_na g 1)).reverse = as at c7 t3
    unfold sx_rcv at c7
    split at c7
    · rename_i a z t
      obtain ⟨v, u, hu, hv, -⟩ := sx_os_c t3
      rw [hu]
      split at c7
      · rename_i p hp
        obtain ⟨b1, b2, -⟩ := h3.2.1.2 a p hp
        have hv : v = .ref (F.1 a) := hv
        rw [hv]
        exact nt_rcI b1 (b2.trans (Nat.eq_of_beq_eq_true c7))
      · cases c7
    · cases c7
def sx_kfd (Ks : List sx_K) (g : Nat) : List sx_K := Ks.filter (fun K => Nat.beq K.1 g)
def sx_try (E : sx_E) (ls : List (Nat × sx_V)) (st args : List sx_V) (N : sx_N) (dl : Nat) : List sx_K → Option (sx_K × (sx_Z × sx_N))
  | [] => none
  | K :: t => bif Nat.blt K.2.1 dl then (match sx_kc E K ls st args N with
    | some o => some (K, o)
    | none => sx_try E ls st args N dl t) else sx_try E ls st args N dl t
theorem sx_try_ok {E : sx_E} {ls : List (Nat × sx_V)} {st args : List sx_V} {N : sx_N} {dl : Nat} {p : sx_K × (sx_Z × sx_N)} : ∀ {l : List sx_K}, sx_try E ls st args N dl l = some p → p.1 ∈ l ∧ p.1.2.1 < dl ∧ sx_kc E p.1 ls st args N = some p.2
  | [], h => by cases h
  | K :: t, h => by
    unfold sx_try at h
    cases e : Nat.blt K.2.1 dl with
    | true =>
      rw [e, cond_true] at h
      split at h
      · rename_i o ho
        cases h
        exact ⟨List.mem_cons_self .., Nat.blt_eq.mp e, ho⟩
      · obtain ⟨a, b, c⟩ := sx_try_ok h
        exact ⟨List.mem_cons_of_mem _ a, b, c⟩
    | false =>
      rw [e, cond_false] at h
      obtain ⟨a, b, c⟩ := sx_try_ok h
      exact ⟨List.mem_cons_of_mem _ a, b, c⟩
abbrev sx_rec : Type := sx_E → List Nat → Bool → Nat → Nat → sx_A → Option sx_G
/-- the states behind a call by contract -/
def sx_aft (E : sx_E) (K : sx_K) (o : sx_Z × sx_N) (pc : Nat) (ls : List (Nat × sx_V)) (rest : List sx_V) : List sx_A := (K.2.2.2.2.2.2.map fun p => (pc, ls, (p.1.map (sx_mV (sx_gf o.1.1) (sx_zq (sx_zf o.1.2) K.2.2.2.2.2.1.2.2.2 o.2.2.2.2))).toList ++ rest, sx_pst E K.2.2.2.1.1 K.2.2.2.1.2 K.2.2.2.2.2.1.2.2.2 (sx_gf o.1.1) (sx_zf o.1.2) o.2 p.2)).filter (fun A => !sx_de A.2.2.2)
def sx_cl (Ks : List sx_K) (rc : sx_rec) (E : sx_E) (cuts : List Nat) (dl mi g q : Nat) (A : sx_A) : Option sx_G :=
  bif Nat.ble 1000 g then (match sx_nx E dl g q A.1 A.2.1 A.2.2.1 A.2.2.2 with
    | some As => sx_cat (As.map (rc E cuts false dl mi))
    | none => none)
  else bif sx_cq E dl g q A.2.2.1 then (match sx_kfd Ks g with
    | [] => bif sx_fA E.2.2.2.2 A.2.1 A.2.2.1 A.2.2.2 then (match rc (E.1, E.2.1, E.2.2.1, E.2.2.2.1, A.2.2.2.2.2.2) [] true (dl - 1) g (0, sx_args 0 (A.2.2.1.take (sx_na g q)).reverse, [], A.2.2.2) with
      | some G => (match sx_rts G with
        | some os => sx_cat (os.map fun o => rc E cuts false dl mi (A.1 + 3, A.2.1, o.1.toList ++ A.2.2.1.drop (sx_na g q), o.2))
        | none => none)
      | none => none) else none
    | Kl => (match sx_try E A.2.1 A.2.2.1 (A.2.2.1.take (sx_na g q)).reverse A.2.2.2 dl Kl with
      | some p => sx_cat ((sx_aft E p.1 p.2 (A.1 + 3) A.2.1 (A.2.2.1.drop (sx_na g q))).map (rc E cuts false dl mi))
      | none => none)) else none
def sx_gr (mi : Nat) (ins : Instr) (A : sx_A) : Option sx_G := match sx_ret mi ins A.2.2.1 A.2.2.2 with
  | some v => some [.inr (v, A.2.2.2)]
  | none => none
def sx_gi (Ks : List sx_K) (rc : sx_rec) (E : sx_E) (cuts : List Nat) (dl mi : Nat) (e : Nat × Instr × Nat × Nat) (A : sx_A) : Option sx_G := match e.2.1 with
  | .ireturn => sx_gr mi .ireturn A
  | .lreturn => sx_gr mi .lreturn A
  | .areturn => sx_gr mi .areturn A
  | .return_ => sx_gr mi .return_ A
  | .invokevirtual _ => sx_cl Ks rc E cuts dl mi e.2.2.1 1 A
  | .invokestatic _ => sx_cl Ks rc E cuts dl mi e.2.2.1 0 A
  | ins => bif nt_pl ins then (match sx_stp E mi e.2.2.1 e.2.2.2 ins A.1 A.2.1 A.2.2.1 A.2.2.2 with
    | some As => sx_cat (As.map (rc E cuts false dl mi))
    | none => none) else none
def sx_go (Ks : List sx_K) : Nat → sx_rec
  | 0, _, _, _, _, _, _ => none
  | f + 1, E, cuts, fst, dl, mi, A => bif !fst && cuts.any (fun k => Nat.beq k A.1) then some [.inl A] else (match nt_at mi A.1 with
    | none => none
    | some e => sx_gi Ks (sx_go Ks f) E cuts dl mi e A)
def sx_RS (X : nt_X) (Ks : List sx_K) (rc : sx_rec) : Prop := ∀ (E : sx_E) (cuts : List Nat) (fst : Bool) (dl mi : Nat) (A : sx_A) (G : sx_G), rc E cuts fst dl mi A = some G → ∀ (F : sx_F) (r : Nat → Int) (c : nt_C) (d : Nat) (Q : Option Value × nt_M → Prop), F.2.2.2 = sx_GG E.1 → (∀ K ∈ Ks, sx_KOK X E.1 K) → dl ≤ d → sx_ok E F r A c → (∀ A', .inl A' ∈ G → ∀ r' c', sx_ok E F r' A' c' → sx_W X d mi Q c') → (∀ o, .inr o ∈ G → ∀ r' out, sx_ov F.1 r' o.1 out.1 → sx_on E F r' o.2 out.2 → Q out) → sx_W X d mi Q c
theorem sx_sts {X : nt_X} {Ks : List sx_K} {rc : sx_rec} (hrc : sx_RS X Ks rc) {E : sx_E} {F : sx_F} {cuts : List Nat} {dl mi d : Nat} {As : List sx_A} {G : sx_G} {c : nt_C} {Q : Option Value × nt_M → Prop} (h : sx_cat (As.map (rc E cuts false dl mi)) = some G) (ha : sx_an E F As c) (hG : F.2.2.2 = sx_GG E.1) (hK : ∀ K ∈ Ks, sx_KOK X E.1 K) (hd : dl ≤ d) (hcut : ∀ A', .inl A' ∈ G → ∀ r' c', sx_ok E F r' A' c' → sx_W X d mi Q c') (hret : ∀ o, .inr o ∈ G → ∀ r' out, sx_ov F.1 r' o.1 out.1 → sx_on E F r' o.2 out.2 → Q out) : sx_W X d mi Q c := by
  obtain ⟨A, hA, r, hok⟩ := ha
  obtain ⟨g, e1, e2⟩ := sx_cat_ok h _ (List.mem_map.mpr ⟨A, hA, rfl⟩)
  exact hrc _ _ _ _ _ _ _ e1 F r c d Q hG hK hd hok (fun A' h' => hcut A' (e2 _ h')) (fun o h' => hret o (e2 _ h'))
theorem sx_gr_ok {X : nt_X} {E : sx_E} {F : sx_F} {mi d : Nat} {ins : Instr} {A : sx_A} {G : sx_G} {r : Nat → Int} {c : nt_C} {Q : Option Value × nt_M → Prop} {e : Nat × Instr × Nat × Nat} (h : sx_gr mi ins A = some G) (hat : nt_at mi c.1 = some e) (he : e.2.1 = ins) (hi : ins = .ireturn ∨ ins = .lreturn ∨ ins = .areturn ∨ ins = .return_) (hok : sx_ok E F r A c) (hret : ∀ o, .inr o ∈ G → ∀ r' out, sx_ov F.1 r' o.1 out.1 → sx_on E F r' o.2 out.2 → Q out) : sx_W X d mi Q c := by
  unfold sx_gr at h
  split at h
  · rename_i v hv
    cases h
    obtain ⟨o, ho, hov⟩ := sx_ret_ok hv hok.2.2.1 hok.2.2.2
    exact ⟨(o, c.2.2.2), nt_rn_r hat (by rw [he]; exact hi) (by rw [he]; exact ho), hret (v, A.2.2.2) (List.mem_cons_self ..) r (o, c.2.2.2) hov hok.2.2.2⟩
  · cases h
theorem sx_cl_ok {X : nt_X} {Ks : List sx_K} {rc : sx_rec} (hrc : sx_RS X Ks rc) {E : sx_E} {F : sx_F} {cuts : List Nat} {dl mi d g q : Nat} {A : sx_A} {G : sx_G} {r : Nat → Int} {c : nt_C} {Q : Option Value × nt_M → Prop} {e : Nat × Instr × Nat × Nat} (h : sx_cl Ks rc E cuts dl mi g q A = some G) (hat : nt_at mi c.1 = some e) (hg : e.2.2.1 = g) (hq : (∃ i, e.2.1 = .invokestatic i ∧ q = 0) ∨ (∃ i, e.2.1 = .invokevirtual i ∧ q = 1) ∨ (∃ i, e.2.1 = .invokespecial i ∧ q = 2)) (hG : F.2.2.2 = sx_GG E.1) (hK : ∀ K ∈ Ks, sx_KOK X E.1 K) (hd : dl ≤ d) (hok : sx_ok E F r A c) (hcut : ∀ A', .inl A' ∈ G → ∀ r' c', sx_ok E F r' A' c' → sx_W X d mi Q c') (hret : ∀ o, .inr o ∈ G → ∀ r' out, sx_ov F.1 r' o.1 out.1 → sx_on E F r' o.2 out.2 → Q out) : sx_W X d mi Q c := by
  obtain ⟨pc, ls, st, N⟩ := A
  obtain ⟨pc', cl, cs, M⟩ := c
  obtain ⟨o1, o2, o3, o4⟩ := hok
  have o1 : pc = pc' := o1
  subst o1
  dsimp only at o2 o3 o4 hat
  unfold sx_cl at h
  by_cases k : 1000 ≤ g
  · rw [show Nat.ble 1000 g = true from Nat.ble_eq_true_of_le k, cond_true] at h
    split at h
    · rename_i As hAs
      obtain ⟨c', e1, e2⟩ := sx_nx_ok hd hAs o2 o3 o4
      obtain ⟨o, k1, k2⟩ := sx_sts hrc h e2 hG hK hd hcut hret
      exact ⟨o, nt_rn_n hat hg k hq e1 k1, k2⟩
    · cases h
  · rw [show Nat.ble 1000 g = false from by
      cases e : Nat.ble 1000 g with
      | false => rfl
      | true => exact absurd (Nat.le_of_ble_eq_true e) k, cond_false] at h
    obtain ⟨hc, h⟩ := sx_bif h
    obtain ⟨d1, q1, c1, c2⟩ := sx_cq_ok hc o3 o4
    obtain ⟨d', rfl⟩ : ∃ d', d = d' + 1 := ⟨d - 1, by omega⟩
    have c3 : q = 2 → nt_rf (cs.take (sx_na g q)).reverse = true := fun e => by omega
    split at h
    · obtain ⟨hf, h⟩ := sx_bif h
      split at h
      · rename_i G1 hG1
        split at h
        · rename_i os hos
          obtain ⟨r1, r2⟩ := sx_rts_ok hos
          unfold sx_fA at hf
          rw [Bool.and_eq_true, Bool.and_eq_true] at hf
          obtain ⟨x1, x2, x3⟩ := hf
          have n0 : E.2.2.2.2 ≤ N.2.2.2 := by
            unfold sx_fN at x3
            rw [Bool.and_eq_true, Bool.and_eq_true, Bool.and_eq_true, Bool.and_eq_true] at x3
            exact Nat.le_of_ble_eq_true x3.2.2.2.2
          have hst := sx_args_ok 0 (sx_os_rv (sx_os_td (sx_na g q) o3).1)
          have key : sx_W X d' g (fun out => sx_W X (d' + 1) mi Q (pc + 3, cl, out.1.toList ++ cs.drop (sx_na g q), out.2)) (0, lv_args 0 (cs.take (sx_na g q)).reverse, [], M) := by
            refine hrc _ _ _ _ _ _ _ hG1 (F.1, F.2.1, r, F.2.2.2) r _ d' _ hG hK (by omega) ⟨rfl, hst, trivial, ⟨o4.1, o4.2.1, o4.2.2.1, o4.2.2.2.1, o4.2.2.2.2.1, fun _ _ => rfl, o4.2.2.2.2.2.2⟩⟩ (fun A' hA' => (r1 A' hA').elim) fun o ho r' out hov hon => ?_
            obtain ⟨y0, y1, y2, y3, y4, y5, y6⟩ := hon
            have hup : ∀ s, s < N.2.2.2 → r' s = r s := y5
            have hon' : sx_on E F r' o.2 out.2 := ⟨y0, y1, y2, y3, y4, fun s hs => by rw [hup s (by omega)]; exact o4.2.2.2.2.2.1 s hs, y6⟩
            obtain ⟨a, e1, e2⟩ := sx_cat_ok h _ (List.mem_map.mpr ⟨o, r2 o ho, rfl⟩)
            refine hrc _ _ _ _ _ _ _ e1 F r' _ (d' + 1) Q hG hK hd ⟨rfl, sx_ol_up hup x1 o2, ?_, hon'⟩ (fun A' h' => hcut A' (e2 _ h')) (fun o h' => hret o (e2 _ h'))
            have hr := (sx_os_td (sx_na g q) (sx_os_up hup _ _ x2 o3)).2
            obtain ⟨v1, v2⟩ := o
            obtain ⟨w1, w2⟩ := out
            dsimp only at hov ⊢
            cases v1 with
            | none =>
              cases w1 with
              | none => exact hr
              | some w => exact hov.elim
            | some v =>
              cases w1 with
              | none => exact hov.elim
              | some w => exact ⟨hov, hr⟩
          obtain ⟨out, e1, o, e2, e3⟩ := key
          exact ⟨o, nt_rn_c hat hg hq c1 c2 c3 e1 e2, e3⟩
        · cases h
      · cases h
    · rename_i Kl hKl
      split at h
      · rename_i p hp
        obtain ⟨t1, t2, t3⟩ := sx_try_ok hp
        have t4 : p.1 ∈ Ks ∧ Nat.beq p.1.1 g = true := by
          have := List.mem_filter.mp (show p.1 ∈ Ks.filter (fun K => Nat.beq K.1 g) from t1)
          exact this
        have t5 := Nat.eq_of_beq_eq_true t4.2
        obtain ⟨out, e1, P, hP, r2, z1, z2, z3, z4⟩ := sx_kc_ok (d := d') hG (hK _ t4.1) (by omega) t3 o2 o3 o4
        rw [t5] at e1
        have hr := (sx_os_td (sx_na g q) z2).2
        have han : sx_an E F (sx_aft E p.1 p.2 (pc + 3) ls (st.drop (sx_na g q))) (pc + 3, cl, out.1.toList ++ cs.drop (sx_na g q), out.2) := by
          refine ⟨_, List.mem_filter.mpr ⟨List.mem_map.mpr ⟨P, hP, rfl⟩, ?_⟩, r2, rfl, z1, ?_, z4⟩
          · show (!sx_de _) = true
            rw [sx_de_ok z4]; rfl
          · dsimp only
            generalize P.1.map _ = v1 at z3
            generalize out.1 = w1 at z3
            cases v1 with
            | none =>
              cases w1 with
              | none => exact hr
              | some w => exact z3.elim
            | some v =>
              cases w1 with
              | none => exact z3.elim
              | some w => exact ⟨z3, hr⟩
        obtain ⟨o, k1, k2⟩ := sx_sts hrc h han hG hK hd hcut hret
        exact ⟨o, nt_rn_c hat hg hq c1 c2 c3 e1 k1, k2⟩
      · cases h
theorem sx_gi_ok {X : nt_X} {Ks : List sx_K} {rc : sx_rec} (hrc : sx_RS X Ks rc) {E : sx_E} {F : sx_F} {cuts : List Nat} {dl mi d : Nat} {A : sx_A} {G : sx_G} {r : Nat → Int} {c : nt_C} {Q : Option Value × nt_M → Prop} {e : Nat × Instr × Nat × Nat} (h : sx_gi Ks rc E cuts dl mi e A = some G) (hat : nt_at mi c.1 = some e) (hG : F.2.2.2 = sx_GG E.1) (hK : ∀ K ∈ Ks, sx_KOK X E.1 K) (hd : dl ≤ d) (hok : sx_ok E F r A c) (hcut : ∀ A', .inl A' ∈ G → ∀ r' c', sx_ok E F r' A' c' → sx_W X d mi Q c') (hret : ∀ o, .inr o ∈ G → ∀ r' out, sx_ov F.1 r' o.1 out.1 → sx_on E F r' o.2 out.2 → Q out) : sx_W X d mi Q c := by
  unfold sx_gi at h
  split at h
  · rename_i he; exact sx_gr_ok h hat he (Or.inl rfl) hok hret
  · rename_i he; exact sx_gr_ok h hat he (Or.inr (Or.inl rfl)) hok hret
  · rename_i he; exact sx_gr_ok h hat he (Or.inr (Or.inr (Or.inl rfl))) hok hret
  · rename_i he; exact sx_gr_ok h hat he (Or.inr (Or.inr (Or.inr rfl))) hok hret
  · rename_i he; exact sx_cl_ok hrc h hat rfl (Or.inr (Or.inl ⟨_, he, rfl⟩)) hG hK hd hok hcut hret
  · rename_i he; exact sx_cl_ok hrc h hat rfl (Or.inl ⟨_, he, rfl⟩) hG hK hd hok hcut hret
  · obtain ⟨hpl, h⟩ := sx_bif h
    split at h
    · rename_i As hAs
      obtain ⟨o1, o2, o3, o4⟩ := hok
      obtain ⟨c', e1, e2⟩ := sx_stp_ok (X := X) hAs o2 o3 o4
      rw [o1] at e1
      obtain ⟨o, k1, k2⟩ := sx_sts hrc h e2 hG hK hd hcut hret
      exact ⟨o, nt_rn_s hat hpl e1 k1, k2⟩
    · cases h
theorem sx_go_ok (X : nt_X) (Ks : List sx_K) : ∀ f, sx_RS X Ks (sx_go Ks f)
  | 0 => fun E cuts fst dl mi A G h => by cases h
  | f + 1 => by
    intro E cuts fst dl mi A G h F r c d Q hG hK hd hok hcut hret
    unfold sx_go at h
    cases e : (!fst && cuts.any (fun k => Nat.beq k A.1)) with
    | true =>
      rw [e, cond_true] at h
      cases h
      exact hcut A (List.mem_cons_self ..) r c hok
    | false =>
      rw [e, cond_false] at h
      split at h
      · cases h
      · rename_i en hen
        exact sx_gi_ok (sx_go_ok X Ks f) h (by rw [← hok.1]; exact hen) hG hK hd hok hcut hret
