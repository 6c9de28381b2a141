/-! homecoming: the loops -/
theorem zk_66l {q : Nat → Nat} {J : Nat → Nat → Int32} {e : Nat → Int32} {s : Int32} (hR : zR q J e) (hW : xr_W e) : ∀ (c : Nat) (a i : Int32), 0 ≤ i.toInt → i.toInt ≤ (e 2).toInt → (e 2).toInt - i.toInt ≤ c → x66_4 q s J c a i + zk e s (fun _ => True) i.toNatClampNeg = a + zk e s (fun _ => True) (zn e 2) := by
  have bb := zn_b hW
  intro c
  induction c with
  | zero =>
    intro a i h h2 hc
    rw [x66_4, show i.toNatClampNeg = zn e 2 from by rw [zn_t]; omega]
  | succ c ih =>
    intro a i h h2 hc
    rw [x66_4, zR_n hR (by omega)]
    by_cases h1 : e 2 ≤ i
    · rw [if_pos h1, show i.toNatClampNeg = zn e 2 from by rw [zn_t]; have := z_ge.mp h1; omega]
    · rw [if_neg h1]
      have x := zx bb.2.2.2.2.2.2.1 h h1
      have l : i.toNatClampNeg < 24 := by omega
      have st := fun a => ih a (i + Int32.ofInt 1) (zi_i h1 h) (by rw [lx_inc h1]; have := z_lt h1; omega) (lx_dec h1 hc)
      rw [zx_i h1 h] at st
      rw [zk] at st
      rw [zR_p hR x.1 l (by omega) (zc_p3 _ l), zR_p hR x.1 l (by omega) (zc_p1 _ l)]
      by_cases h3 : e (52 + 5 * i.toNatClampNeg + 3) = s
      · rw [if_pos h3]
        simp only [if_pos h3] at st
        by_cases h4 : e (52 + 5 * i.toNatClampNeg + 1) ≤ 0
        · rw [if_pos h4]
          simp only [if_pos h4] at st
          have := st a
          grind
        · rw [if_neg h4]
          simp only [if_neg h4, if_pos trivial] at st
          have := st (a + Int32.ofInt 1)
          rw [show Int32.ofInt 1 = 1 from rfl] at this ⊢
          grind
      · rw [if_neg h3]
        simp only [if_neg h3] at st
        have := st a
        grind
theorem zk_66 {q : Nat → Nat} {J : Nat → Nat → Int32} {e : Nat → Int32} {s : Int32} (hR : zR q J e) (hW : xr_W e) : x66 q s J = zk e s (fun _ => True) (zn e 2) := by
  unfold x66
  have b := xr_2 hW
  have := zk_66l (s := s) hR hW (e 2).toNatClampNeg (Int32.ofInt 0) (Int32.ofInt 0) (by decide) (by rw [show (Int32.ofInt 0).toInt = 0 from by decide]; omega) (lx_beg (by decide))
  rw [show (Int32.ofInt 0).toNatClampNeg = 0 from rfl, show zk e s (fun _ => True) 0 = 0 from rfl, show Int32.ofInt 0 = 0 from rfl] at this
  rw [zR_n hR (by omega), show Int32.ofInt 0 = 0 from rfl]
  grind
theorem zk_170l {p : Nat → Nat} {J : Nat → Nat → Int32} {s : Int32} (hW : xr_W (J (p 4))) (hl : zl (J (p 4)) s) : ∀ (c : Nat) (a i : Int32), 0 ≤ i.toInt → i.toInt ≤ (J (p 4) 2).toInt → (J (p 4) 2).toInt - i.toInt ≤ c → x170_4 p s J c a i + zk (J (p 4)) s (fun _ => True) i.toNatClampNeg = a + zk (J (p 4)) s (fun _ => True) (zn (J (p 4)) 2) := by
  have bb := zn_b hW
  intro c
  induction c with
  | zero =>
    intro a i h h2 hc
    rw [x170_4, show i.toNatClampNeg = zn (J (p 4)) 2 from by rw [zn_t]; omega]
  | succ c ih =>
    intro a i h h2 hc
    rw [x170_4]
    by_cases h1 : J (p 4) 2 ≤ i
    · rw [if_pos h1, show i.toNatClampNeg = zn (J (p 4)) 2 from by rw [zn_t]; have := z_ge.mp h1; omega]
    · rw [if_neg h1]
      have x := zx bb.2.2.2.2.2.2.1 h h1
      have l : i.toNatClampNeg < 24 := by omega
      have st := fun a => ih a (i + Int32.ofInt 1) (zi_i h1 h) (by rw [lx_inc h1]; have := z_lt h1; omega) (lx_dec h1 hc)
      rw [zx_i h1 h] at st
      rw [zk] at st
      have r1 : x173 p i (Int32.ofInt 1) J = _ := zx_p (k := 1) h (by omega) (by omega)
      have r3 : x173 p i (Int32.ofInt 3) J = _ := zx_p (k := 3) h (by omega) (by omega)
      have r4 : x173 p i (Int32.ofInt 4) J = _ := zx_p (k := 4) h (by omega) (by omega)
      rw [z_in r1 r3 r4 (hl _ x.1)]
      by_cases h3 : J (p 4) (52 + 5 * i.toNatClampNeg + 3) = s
      · simp only [if_pos h3] at st ⊢
        by_cases h4 : J (p 4) (52 + 5 * i.toNatClampNeg + 1) ≤ 0
        · simp only [if_pos h4] at st ⊢
          rw [if_pos trivial, z_add0]
          have := st a
          grind
        · simp only [if_neg h4, if_pos trivial] at st ⊢
          rw [if_neg (show ¬ (1 : Int32) = 0 from by decide)]
          have := st (a + Int32.ofInt 1)
          rw [show Int32.ofInt 1 = 1 from rfl] at this ⊢
          grind
      · simp only [if_neg h3] at st ⊢
        rw [if_pos trivial, z_add0]
        have := st a
        grind
theorem zk_170 {p : Nat → Nat} {J : Nat → Nat → Int32} {s : Int32} (hW : xr_W (J (p 4))) (hl : zl (J (p 4)) s) : x170 p s J = zk (J (p 4)) s (fun _ => True) (zn (J (p 4)) 2) := by
  unfold x170
  have b := xr_2 hW
  have := zk_170l (s := s) hW hl (J (p 4) 2).toNatClampNeg (Int32.ofInt 0) (Int32.ofInt 0) (by decide) (by rw [show (Int32.ofInt 0).toInt = 0 from by decide]; omega) (lx_beg (by decide))
  rw [show (Int32.ofInt 0).toNatClampNeg = 0 from rfl, show zk (J (p 4)) s (fun _ => True) 0 = 0 from rfl, show Int32.ofInt 0 = 0 from rfl] at this
  rw [show Int32.ofInt 0 = 0 from rfl]
  grind
/-- an event by the first row's numbers -/
def zpart (e : Nat → Int32) (x : Nat × Nat) : Int32 := e (172 + 5 * x.2 + 3) / (zk e (Int32.ofInt (x.1 : Int)) (fun _ => True) (zn e 2) + Int32.ofInt 1)
def zev (e0 : Nat → Int32) (e : Nat → Int32) (x : Nat × Nat) : Nat → Int32 := zE (zgn e0 (Int32.ofInt (x.1 : Int)) (e0 (172 + 5 * x.2 + 3)) (zpart e0 x)) (e0 (172 + 5 * x.2 + 3)) x.1 x.2 e
def zF (e0 : Nat → Int32) (l : List (Nat × Nat)) : Nat → Int32 := l.foldl (zev e0) e0
/-- cells that no event writes -/
def zcst (j : Nat) : Prop := j ≠ 7 ∧ ¬ (10 ≤ j ∧ j < 52 ∧ 4 ≤ (j - 10) % 7) ∧ ¬ (172 ≤ j ∧ (j - 172) % 5 = 4)
theorem zE_o {g : Nat → Int32} {y : Int32} {s v : Nat} {e : Nat → Int32} {j : Nat} (h1 : j ≠ 10 + 7 * s + 4) (h2 : j ≠ 10 + 7 * s + 5) (h3 : j ≠ 172 + 5 * v + 4) (h4 : j ≠ 7) (h5 : ¬ zc6 j) : zE g y s v e j = e j := by
  unfold zE
  rw [if_neg h1, if_neg h2, if_neg h3, if_neg h4]
  exact if_neg h5
theorem zF_o {e0 : Nat → Int32} {j : Nat} (h4 : j ≠ 7) (h5 : ¬ zc6 j) : ∀ (l : List (Nat × Nat)) (e : Nat → Int32), (∀ x ∈ l, j ≠ 10 + 7 * x.1 + 4 ∧ j ≠ 10 + 7 * x.1 + 5 ∧ j ≠ 172 + 5 * x.2 + 4) → l.foldl (zev e0) e j = e j := by
  intro l
  induction l with
  | nil => intro e h; rfl
  | cons x l ih =>
    intro e h
    rw [List.foldl_cons, ih _ (fun y hy => h y (List.mem_cons_of_mem _ hy))]
    have hx := h x (List.mem_cons_self ..)
    exact zE_o hx.1 hx.2.1 hx.2.2 h4 h5
theorem zF_c {e0 : Nat → Int32} {l : List (Nat × Nat)} {j : Nat} (hl : ∀ x ∈ l, x.1 < 6 ∧ x.2 < 8) (h : zcst j) : zF e0 l j = e0 j := by
  unfold zcst at h
  exact zF_o (by omega) (by unfold zc6; omega) l e0 (fun x hx => by have := hl x hx; omega)
theorem zE_W {g : Nat → Int32} {y : Int32} {s v : Nat} {e : Nat → Int32} (hs : s < 6) (hv : v < 8) (h : xr_W e) : xr_W (zE g y s v e) := by
  intro j
  by_cases a1 : j = 10 + 7 * s + 4
  · rw [a1]
    exact xr_any (xr_bs hs (by omega) (by omega))
  · by_cases a2 : j = 10 + 7 * s + 5
    · rw [a2, xr_b5 hs]
      unfold zE
      rw [if_neg (by omega), if_pos rfl]
      decide
    · by_cases a3 : j = 172 + 5 * v + 4
      · rw [a3]
        exact xr_any (xr_bv hv (by omega) (by omega))
      · by_cases a4 : j = 7
        · rw [a4]
          exact xr_any rfl
        · by_cases a5 : zc6 j
          · unfold zc6 at a5
            have ej : j = 10 + 7 * ((j - 10) / 7) + 6 := by omega
            rw [ej]
            exact xr_any (xr_bs (by omega) (by omega) (by omega))
          · rw [zE_o a1 a2 a3 a4 a5]
            exact h j
theorem zF_W {e0 : Nat → Int32} : ∀ (l : List (Nat × Nat)) (e : Nat → Int32), xr_W e → (∀ x ∈ l, x.1 < 6 ∧ x.2 < 8) → xr_W (l.foldl (zev e0) e) := by
  intro l
  induction l with
  | nil => intro e h _; exact h
  | cons x l ih =>
    intro e h hl
    rw [List.foldl_cons]
    have hx := hl x (List.mem_cons_self ..)
    exact ih _ (zE_W hx.1 hx.2 h) (fun y hy => hl y (List.mem_cons_of_mem _ hy))
theorem zF_A {e0 : Nat → Int32} {l : List (Nat × Nat)} (w : xr_W e0) (a : zA e0) (hl : ∀ x ∈ l, x.1 < 6 ∧ x.2 < 8) : zA (zF e0 l) :=
  zA_ag a w (fun i hi h4 => zF_c hl (by unfold zcst; omega)) (fun s hs k hk => zF_c hl (by unfold zcst; omega)) (fun p hp => ⟨zF_c hl (by unfold zcst; omega), zF_c hl (by unfold zcst; omega)⟩) (fun v hv k hk => zF_c hl (by unfold zcst; omega))
theorem zF_p {e0 : Nat → Int32} {l : List (Nat × Nat)} (hl : ∀ x ∈ l, x.1 < 6 ∧ x.2 < 8) : zpl e0 (zF e0 l) := fun n hn => ⟨zF_c hl (by unfold zcst; omega), zF_c hl (by unfold zcst; omega), zF_c hl (by unfold zcst; omega)⟩
/-- the class's loop, the reference's loop -/
def zhc (q : Nat → Nat) : Nat → Int32 → (Nat → Nat → Int32) → (Nat → Nat → Int32)
  | 0, i, J => J
  | c + 1, i, J => if (J (q 1) 1) ≤ i then J
    else if (J (q 10) i.toNatClampNeg) = (Int32.ofInt 1) then if (x2 q i (J (q 0) 2) J) = 0 then zhc q c (i + (Int32.ofInt 1)) J
        else zhc q c (i + (Int32.ofInt 1)) (x3 q i J)
      else zhc q c (i + (Int32.ofInt 1)) J
def zhr (p : Nat → Nat) : Nat → Int32 → (Nat → Nat → Int32) → (Nat → Nat → Int32)
  | 0, i, J => J
  | c + 1, i, J => if (J (p 4) 3) ≤ i then J
    else if (x180 p i (Int32.ofInt 4) J) = (Int32.ofInt 1) then if (x180 p i (Int32.ofInt 2) J) = (J (p 4) 4) then zhr p c (i + (Int32.ofInt 1)) (x191 p i J)
        else zhr p c (i + (Int32.ofInt 1)) J
      else zhr p c (i + (Int32.ofInt 1)) J
theorem zhc_1 {p q : Nat → Nat} {sp ln : Nat} {L : Nat → Nat → Int64} : ∀ (c : Nat) (i : Int32) (J : Nat → Nat → Int32), x1_2 p q sp ln L c i J = x1_48 p q sp ln ((zhc q c i J (q 1) 3).toNatClampNeg) (Int32.ofInt 0) (zhc q c i J) L := by
  intro c
  induction c with
  | zero => intro i J; rfl
  | succ c ih =>
    intro i J
    rw [x1_2, zhc]
    split
    · rfl
    · split
      · split
        · exact ih _ _
        · exact ih _ _
      · exact ih _ _
theorem zhc_N {p q : Nat → Nat} : ∀ (c : Nat) (i : Int32) (J : Nat → Nat → Int32), x1N_2 p q c i J = x1N_48 p q ((zhc q c i J (q 1) 3).toNatClampNeg) (Int32.ofInt 0) (zhc q c i J) := by
  intro c
  induction c with
  | zero => intro i J; rfl
  | succ c ih =>
    intro i J
    rw [x1N_2, zhc]
    split
    · rfl
    · split
      · split
        · exact ih _ _
        · exact ih _ _
      · exact ih _ _
theorem zhr_1 {p : Nat → Nat} {v1 : Int32} {L : Nat → Nat → Int64} : ∀ (c : Nat) (i : Int32) (J : Nat → Nat → Int32), x190_2 p v1 L c i J = x190_50 p v1 ((zhr p c i J (p 4) 3).toNatClampNeg) (Int32.ofInt 0) (zhr p c i J) L := by
  intro c
  induction c with
  | zero => intro i J; rfl
  | succ c ih =>
    intro i J
    rw [x190_2, zhr]
    split
    · rfl
    · split
      · split
        · exact ih _ _
        · exact ih _ _
      · exact ih _ _
theorem zfil {f : Nat → Bool} {n : Nat} : List.filter f [n] = if f n = true then [n] else [] := by
  by_cases h : f n = true
  · rw [if_pos h, List.filter_cons_of_pos h]
    rfl
  · rw [if_neg h, List.filter_cons_of_neg h]
    rfl
def zlc (e : Nat → Int32) (n : Nat) : List (Nat × Nat) := ((List.range n).filter (fun s => decide (e (10 + 7 * s + 4) = 1 ∧ e (172 + 5 * (e (10 + 7 * s + 5)).toNatClampNeg + 2) = e 4))).map (fun s => (s, (e (10 + 7 * s + 5)).toNatClampNeg))
def zlr (e : Nat → Int32) (n : Nat) : List (Nat × Nat) := ((List.range n).filter (fun v => decide (e (172 + 5 * v + 4) = 1 ∧ e (172 + 5 * v + 2) = e 4))).map (fun v => ((e (172 + 5 * v + 0)).toNatClampNeg, v))
theorem zlc_m {e : Nat → Int32} {n : Nat} {x : Nat × Nat} : x ∈ zlc e n ↔ x.1 < n ∧ (e (10 + 7 * x.1 + 4) = 1 ∧ e (172 + 5 * (e (10 + 7 * x.1 + 5)).toNatClampNeg + 2) = e 4) ∧ x.2 = (e (10 + 7 * x.1 + 5)).toNatClampNeg := by
  unfold zlc
  rw [List.mem_map]
  constructor
  · rintro ⟨s, hs, rfl⟩
    rw [List.mem_filter, List.mem_range, decide_eq_true_eq] at hs
    exact ⟨hs.1, hs.2, rfl⟩
  · rintro ⟨h1, h2, h3⟩
    refine ⟨x.1, ?_, by rw [← h3]⟩
    rw [List.mem_filter, List.mem_range, decide_eq_true_eq]
    exact ⟨h1, h2⟩
theorem zlr_m {e : Nat → Int32} {n : Nat} {x : Nat × Nat} : x ∈ zlr e n ↔ x.2 < n ∧ (e (172 + 5 * x.2 + 4) = 1 ∧ e (172 + 5 * x.2 + 2) = e 4) ∧ x.1 = (e (172 + 5 * x.2 + 0)).toNatClampNeg := by
  unfold zlr
  rw [List.mem_map]
  constructor
  · rintro ⟨s, hs, rfl⟩
    rw [List.mem_filter, List.mem_range, decide_eq_true_eq] at hs
    exact ⟨hs.1, hs.2, rfl⟩
  · rintro ⟨h1, h2, h3⟩
    refine ⟨x.2, ?_, by rw [← h3]⟩
    rw [List.mem_filter, List.mem_range, decide_eq_true_eq]
    exact ⟨h1, h2⟩
theorem zlc_s {e : Nat → Int32} {n : Nat} : zlc e (n + 1) = zlc e n ++ (if e (10 + 7 * n + 4) = 1 ∧ e (172 + 5 * (e (10 + 7 * n + 5)).toNatClampNeg + 2) = e 4 then [(n, (e (10 + 7 * n + 5)).toNatClampNeg)] else []) := by
  unfold zlc
  rw [List.range_succ, List.filter_append, List.map_append]
  congr 1
  by_cases h : e (10 + 7 * n + 4) = 1 ∧ e (172 + 5 * (e (10 + 7 * n + 5)).toNatClampNeg + 2) = e 4
  · rw [if_pos h, zfil, if_pos (decide_eq_true h)]
    rfl
  · rw [if_neg h, zfil, if_neg (fun c => h (of_decide_eq_true c))]
    rfl
theorem zlr_s {e : Nat → Int32} {n : Nat} : zlr e (n + 1) = zlr e n ++ (if e (172 + 5 * n + 4) = 1 ∧ e (172 + 5 * n + 2) = e 4 then [((e (172 + 5 * n + 0)).toNatClampNeg, n)] else []) := by
  unfold zlr
  rw [List.range_succ, List.filter_append, List.map_append]
  congr 1
  by_cases h : e (172 + 5 * n + 4) = 1 ∧ e (172 + 5 * n + 2) = e 4
  · rw [if_pos h, zfil, if_pos (decide_eq_true h)]
    rfl
  · rw [if_neg h, zfil, if_neg (fun c => h (of_decide_eq_true c))]
    rfl
theorem zl_nd1 {e : Nat → Int32} {n : Nat} : (zlc e n).Nodup := by
  unfold zlc
  refine List.Pairwise.map _ ?_ (List.Pairwise.filter _ (List.nodup_range (n := n)))
  intro a b hab c
  exact hab (congrArg Prod.fst c)
theorem zl_nd2 {e : Nat → Int32} {n : Nat} : (zlr e n).Nodup := by
  unfold zlr
  refine List.Pairwise.map _ ?_ (List.Pairwise.filter _ (List.nodup_range (n := n)))
  intro a b hab c
  exact hab (congrArg Prod.snd c)
theorem zlc_b {e : Nat → Int32} {b : Int} (hW : zW e b) {n : Nat} (hn : n ≤ zn e 1) : ∀ x ∈ zlc e n, x.1 < 6 ∧ x.2 < 8 := by
  have bb := zn_b hW.w
  intro x hx
  obtain ⟨h1, h2, h3⟩ := zlc_m.mp hx
  obtain ⟨v, hv, ev, _⟩ := hW.c.on x.1 (by omega) h2.1
  rw [z_i3 ev] at h3
  omega
theorem zlr_b {e : Nat → Int32} {b : Int} (hW : zW e b) {n : Nat} (hn : n ≤ zn e 3) : ∀ x ∈ zlr e n, x.1 < 6 ∧ x.2 < 8 := by
  have bb := zn_b hW.w
  intro x hx
  obtain ⟨h1, h2, h3⟩ := zlr_m.mp hx
  have hv := hW.a.vo x.2 (by omega)
  have := z_tn hv.1
  omega
theorem zl_perm {e : Nat → Int32} {b : Int} (hW : zW e b) : (zlc e (zn e 1)).Perm (zlr e (zn e 3)) := by
  rw [List.perm_ext_iff_of_nodup zl_nd1 zl_nd2]
  intro x
  rw [zlc_m, zlr_m]
  constructor
  · rintro ⟨h1, ⟨h2, h3⟩, h4⟩
    obtain ⟨v, hv, ev, es, ec, eb⟩ := hW.c.on x.1 h1 h2
    rw [z_i3 ev] at h3 h4
    rw [h4]
    exact ⟨hv, ⟨ec, h3⟩, (z_i3 es).symm⟩
  · rintro ⟨h1, ⟨h2, h3⟩, h4⟩
    obtain ⟨s, hs, es, e1, eo⟩ := hW.c.vc x.2 h1 h2
    rw [z_i3 es] at h4
    rw [h4]
    exact ⟨hs, ⟨e1, by rw [z_i3 eo]; exact h3⟩, (z_i3 eo).symm⟩
theorem zF_perm {e : Nat → Int32} {b : Int} (hW : zW e b) : zF e (zlc e (zn e 1)) = zF e (zlr e (zn e 3)) := by
  refine List.Perm.foldl_eq' (zl_perm hW) ?_ e
  intro x hx y hy z
  have b1 := zlc_b hW (Nat.le_refl _) x hx
  have b2 := zlc_b hW (Nat.le_refl _) y hy
  exact zE_comm b2.1 b1.1 b2.2 b1.2
