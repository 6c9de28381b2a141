/-! a rule read by both sides is the same rule -/
theorem zLL_ag {g h g' h' : Nat → Int32} {m a n b : Nat} {B : List Int64 → Prop} (z : zLL g h m a n b B) (hg : ∀ j, j < a + m → g' j = g j) (hh : ∀ j, j < b + n → h' j = h j) : zLL g' h' m a n b B := by
  refine ⟨fun w => ?_, fun j h1 h2 => ?_, fun j h1 h2 => ?_⟩
  · obtain ⟨vs, c, d⟩ := z.1 w
    exact ⟨vs, c, fun st => by rw [zcr_ag (g := g) _ _ _ (fun j h1 h2 => hg j h2), zrr_ag (g := h) _ _ _ (fun j h1 h2 => hh j h2)]; exact d st⟩
  · rw [hg j h2]
    exact z.2.1 j h1 h2
  · rw [hh j h2]
    exact z.2.2 j h1 h2
theorem zLL_1 {g h : Nat → Int32} {m a n b : Nat} (z : zLL g h m a n b z1v) : zsg g h m a n b (fun _ => True) :=
  ⟨fun w => by obtain ⟨vs, ⟨v, e⟩, d⟩ := z.1 w; subst e; exact ⟨v, trivial, d⟩, z.2⟩
theorem zLL_b {g h : Nat → Int32} {m a n b : Nat} (z : zLL g h m a n b z1b) : zsg g h m a n b (fun v => v = 0 ∨ v = 1) :=
  ⟨fun w => by obtain ⟨vs, ⟨v, hv, e⟩, d⟩ := z.1 w; subst e; exact ⟨v, hv, d⟩, z.2⟩
/-- a clause, below L in the reference's stream -/
def zCb (g h : Nat → Int32) (cl : Nat → Int32) (a a' L : Nat) : Prop := ∃ m1 n0 n1 : Nat, (cl 0).toInt = n0 ∧ (cl 1).toInt = n1 ∧ n0 ≤ n1 ∧ n1 ≤ L ∧ zLL g h m1 a (n1 - n0) n0 z1v ∧
  ((cl 2 < 0 ∧ g (a + m1) = Int32.ofInt 22 ∧ a' = a + m1 + 1 ∧ zpc g m1 a ≤ 60) ∨
   (∃ m2 n2 n3 : Nat, (cl 2).toInt = n2 ∧ (cl 3).toInt = n3 ∧ n2 ≤ n3 ∧ n3 ≤ L ∧ zLL g h m2 (a + m1) (n3 - n2) n2 z1b ∧ g (a + m1 + m2) = Int32.ofInt 23 ∧ a' = a + m1 + m2 + 1 ∧ zpc g m1 a + zpc g m2 (a + m1) ≤ 60))
theorem zCb_ag {g h g' h' cl cl' : Nat → Int32} {a a' L L' : Nat} (z : zCb g h cl a a' L) (hg : ∀ j, j < a' → g' j = g j) (hh : ∀ j, j < L → h' j = h j) (hc : ∀ r, r < 4 → cl' r = cl r) (hL : L ≤ L') : zCb g' h' cl' a a' L' := by
  obtain ⟨m1, n0, n1, e0, e1, l1, l2, s, q⟩ := z
  rcases q with ⟨c2, g22, ea, hp⟩ | ⟨m2, n2, n3, e2, e3, l3, l4, s2, g23, ea, hp⟩
  · refine ⟨m1, n0, n1, by rw [hc 0 (by omega)]; exact e0, by rw [hc 1 (by omega)]; exact e1, l1, by omega, zLL_ag s (fun j hj => hg j (by omega)) (fun j hj => hh j (by omega)), Or.inl ⟨by rw [hc 2 (by omega)]; exact c2, by rw [hg _ (by omega)]; exact g22, ea, ?_⟩⟩
    rw [zpc_ag (g := g) _ _ (fun j h1 h2 => hg j (by omega))]
    exact hp
  · refine ⟨m1, n0, n1, by rw [hc 0 (by omega)]; exact e0, by rw [hc 1 (by omega)]; exact e1, l1, by omega, zLL_ag s (fun j hj => hg j (by omega)) (fun j hj => hh j (by omega)), Or.inr ⟨m2, n2, n3, by rw [hc 2 (by omega)]; exact e2, by rw [hc 3 (by omega)]; exact e3, l3, by omega, zLL_ag s2 (fun j hj => hg j (by omega)) (fun j hj => hh j (by omega)), by rw [hg _ (by omega)]; exact g23, ea, ?_⟩⟩
    rw [zpc_ag (g := g) _ _ (fun j h1 h2 => hg j (by omega)), zpc_ag (g := g) _ _ (fun j h1 h2 => hg j (by omega))]
    exact hp
theorem zCb_l {g h cl : Nat → Int32} {a a' L : Nat} (z : zCb g h cl a a' L) (hL : L ≤ 400) : zCl g h cl a a' ∧ a < a' := by
  obtain ⟨m1, n0, n1, e0, e1, l1, l2, s, q⟩ := z
  rcases q with ⟨c2, g22, ea, hp⟩ | ⟨m2, n2, n3, e2, e3, l3, l4, s2, g23, ea, hp⟩
  · exact ⟨⟨m1, n0, n1, e0, e1, l1, by omega, zLL_1 s, Or.inl ⟨c2, g22, ea, hp⟩⟩, by omega⟩
  · exact ⟨⟨m1, n0, n1, e0, e1, l1, by omega, zLL_1 s, Or.inr ⟨m2, n2, n3, e2, e3, l3, by omega, zLL_b s2, g23, ea, hp⟩⟩, by omega⟩
/-- so many clauses stand -/
def zIv (t x : Nat) (z : lb_Z) (cl : Nat → Int32) (cc : Nat) : Prop := (z.1 ≤ t) ∧ (z.2.1 ≤ 60) ∧ (z.2.2.1.1 ≤ z.1) ∧ (z.2.2.2.1 ≤ z.2.2.1.1) ∧ (∃ pos : Nat → Nat, pos 0 = 0 ∧ pos cc = z.2.2.1.1 ∧ (∀ i, i < cc → pos (i + 1) ≤ z.2.2.1.1 ∧ zCb z.2.2.1.2 z.2.2.2.2 (fun r => cl (48 * x + 4 * i + r)) (pos i) (pos (i + 1)) z.2.2.2.1))
theorem zIv.pl {t x : Nat} {z : lb_Z} {cl : Nat → Int32} {cc : Nat} (h_ : zIv t x z cl cc) : z.1 ≤ t := h_.1
theorem zIv.m {t x : Nat} {z : lb_Z} {cl : Nat → Int32} {cc : Nat} (h_ : zIv t x z cl cc) : z.2.1 ≤ 60 := h_.2.1
theorem zIv.l {t x : Nat} {z : lb_Z} {cl : Nat → Int32} {cc : Nat} (h_ : zIv t x z cl cc) : z.2.2.1.1 ≤ z.1 := h_.2.2.1
theorem zIv.d {t x : Nat} {z : lb_Z} {cl : Nat → Int32} {cc : Nat} (h_ : zIv t x z cl cc) : z.2.2.2.1 ≤ z.2.2.1.1 := h_.2.2.2.1
theorem zIv.p {t x : Nat} {z : lb_Z} {cl : Nat → Int32} {cc : Nat} (h_ : zIv t x z cl cc) : ∃ pos : Nat → Nat, pos 0 = 0 ∧ pos cc = z.2.2.1.1 ∧ (∀ i, i < cc → pos (i + 1) ≤ z.2.2.1.1 ∧ zCb z.2.2.1.2 z.2.2.2.2 (fun r => cl (48 * x + 4 * i + r)) (pos i) (pos (i + 1)) z.2.2.2.1) := h_.2.2.2.2
theorem zin {n : Nat} (h : n ≤ 2400) : (nI n).toInt = n := nI_toInt (by omega)
theorem zIv_1 {f : Nat → Int32} {t x : Nat} {z z1 z2 : lb_Z} {cl cl' : Nat → Int32} {cc : Nat} (ht : t ≤ 400) (hI : zIv t x z cl cc) (hat : lb_at f t (lb_W (nt_sp + 1 + 5)) z.1) (hs : lb_sum f t (lb_s f t (z.1 + (lb_W (nt_sp + 1 + 5)).length), z.2.1, z.2.2) (.inr z1)) (hi : lb_if f t z1 (.inr z2)) (hD : mg_D f t x z cl cc z2 cl') : zIv t x z2 cl' (cc + 1) := by
  have b2 := lb_Wp 5 (by decide)
  have a := hat.1
  have q := lb_s_le (f := f) (t := t) (t - (z.1 + (lb_W (nt_sp + 1 + 5)).length)) (z.1 + (lb_W (nt_sp + 1 + 5)).length) (by omega)
  obtain ⟨pl, hm, hl, hd, pos, p0, pc, hp⟩ := hI
  obtain ⟨s1, s2, s3, s4, s5, s6⟩ := zJ_sum (z := (lb_s f t (z.1 + (lb_W (nt_sp + 1 + 5)).length), z.2.1, z.2.2)) ht q.2 hm (by dsimp only; omega) hs
  dsimp only at s1 s2 s4 s5
  obtain ⟨z1', hs', _, k0, k1, k2, k3, ko⟩ := hD
  have e1 := Sum.inr.inj (lb_sum_det hs hs')
  subst e1
  have d1 := s1.d
  have l1 := s1.l1
  have l2 := s1.l2
  rcases hi with ⟨ha, k, r1, r2, h1, h2, h⟩ | ⟨ha, h⟩
  · have b3 := lb_Wp 14 (by decide)
    have a3 := ha.1
    have q3 := lb_s_le (f := f) (t := t) (t - (z1.1 + (lb_W (nt_sp + 1 + 14)).length)) (z1.1 + (lb_W (nt_sp + 1 + 14)).length) (by omega)
    rcases h with ⟨c, e1, e2⟩ | ⟨z4, e1, h⟩
    · cases e2
    subst e1
    rcases h2 with ⟨c, e1, e2⟩ | ⟨z3, e1, h2⟩
    · cases e2
    subst e1
    have up := lb_ft_up _ _ _ _ _ _ q3.2 h1
    obtain ⟨t1, t2, t3, t4⟩ := (zJ_ft ht _ true _ _ _ z3 q3.2 (by exact s3) h1).1 rfl (by dsimp only; omega)
    dsimp only at t1 t2 t4 up
    have up2 := lb_ft_up _ _ _ _ _ _ up.2.1 h2
    obtain ⟨v1, v2, v3, v4⟩ := (zJ_ft ht _ false _ _ z3 z4 up.2.1 t3 h2).2 rfl z1.2.2 _ (Or.inl ⟨rfl, t1, by omega⟩)
    rw [if_neg (by decide)] at v4
    have e := Sum.inr.inj h
    subst e
    have l4 : z4.2.2.1.1 < 400 := by omega
    have ee : lb_e z4.2.2.1 (Int32.ofInt 23) = (z4.2.2.1.1 + 1, fun j => if j = z4.2.2.1.1 then Int32.ofInt 23 else z4.2.2.1.2 j) := if_pos l4
    dsimp only at k3
    rw [if_pos ha] at k2
    have dv := v1.d
    have w1 := v1.l1
    have w2 := v1.l2
    have c1 := s1.c
    have c2 := v1.c
    refine ⟨up2.2.1, v3, ?_, ?_, fun i => if i = cc + 1 then z4.2.2.1.1 + 1 else pos i, ?_, ?_, fun i hi => ?_⟩
    · dsimp only
      rw [ee]
      dsimp only
      omega
    · dsimp only
      rw [ee]
      dsimp only
      omega
    · dsimp only
      rw [if_neg (by omega)]
      exact p0
    · dsimp only
      rw [if_pos rfl, ee]
    · dsimp only
      rw [ee]
      dsimp only
      by_cases ci : i = cc
      · subst ci
        rw [if_pos rfl, if_neg (by omega), pc]
        refine ⟨Nat.le_refl _, z1.2.2.1.1 - z.2.2.1.1, z.2.2.2.1, z1.2.2.2.1, ?_, ?_, l2, by omega, ?_, Or.inr ⟨z4.2.2.1.1 - z1.2.2.1.1, z1.2.2.2.1, z4.2.2.2.1, ?_, ?_, w2, Nat.le_refl _, ?_, ?_, by omega, ?_⟩⟩
        · show (cl' (48 * x + 4 * i)).toInt = _
          rw [k0]
          exact zin (by omega)
        · show (cl' (48 * x + 4 * i + 1)).toInt = _
          rw [k1]
          exact zin (by omega)
        · refine zLL_ag s1.s (fun j hj => ?_) (fun j hj => ?_)
          · exact (if_neg (by omega)).trans (v1.p1 j (by omega))
          · exact v1.p2 j (by omega)
        · show (cl' (48 * x + 4 * i + 2)).toInt = _
          rw [k2]
          exact zin (by omega)
        · show (cl' (48 * x + 4 * i + 3)).toInt = _
          rw [k3]
          exact zin (by omega)
        · rw [show z.2.2.1.1 + (z1.2.2.1.1 - z.2.2.1.1) = z1.2.2.1.1 from by omega]
          refine zLL_ag v1.s (fun j hj => ?_) (fun j hj => rfl)
          exact if_neg (by omega)
        · exact if_pos (by omega)
        · rw [show z.2.2.1.1 + (z1.2.2.1.1 - z.2.2.1.1) = z1.2.2.1.1 from by omega, zpc_ag (g := z1.2.2.1.2) _ _ (fun j h1 h2 => (if_neg (by omega)).trans (v1.p1 j (by omega))), zpc_ag (g := z4.2.2.1.2) _ _ (fun j h1 h2 => if_neg (by omega))]
          omega
      · have hpi := hp i (by omega)
        rw [if_neg (by omega), if_neg (by omega)]
        refine ⟨by omega, zCb_ag hpi.2 (fun j hj => ?_) (fun j hj => ?_) (fun r hr => ?_) (by omega)⟩
        · exact (if_neg (by omega)).trans ((v1.p1 j (by omega)).trans (s1.p1 j (by omega)))
        · rw [v1.p2 j (by omega)]
          exact s1.p2 j (by omega)
        · exact ko _ (by omega)
  · have e := Sum.inr.inj h
    subst e
    have l4 : z1.2.2.1.1 < 400 := by omega
    have ee : lb_e z1.2.2.1 (Int32.ofInt 22) = (z1.2.2.1.1 + 1, fun j => if j = z1.2.2.1.1 then Int32.ofInt 22 else z1.2.2.1.2 j) := if_pos l4
    dsimp only at k3
    rw [if_neg ha] at k2
    have c1 := s1.c
    refine ⟨s6, s3, ?_, ?_, fun i => if i = cc + 1 then z1.2.2.1.1 + 1 else pos i, ?_, ?_, fun i hi => ?_⟩
    · dsimp only
      rw [ee]
      dsimp only
      omega
    · dsimp only
      rw [ee]
      dsimp only
      omega
    · dsimp only
      rw [if_neg (by omega)]
      exact p0
    · dsimp only
      rw [if_pos rfl, ee]
    · dsimp only
      rw [ee]
      dsimp only
      by_cases ci : i = cc
      · subst ci
        rw [if_pos rfl, if_neg (by omega), pc]
        refine ⟨Nat.le_refl _, z1.2.2.1.1 - z.2.2.1.1, z.2.2.2.1, z1.2.2.2.1, ?_, ?_, l2, Nat.le_refl _, ?_, Or.inl ⟨?_, ?_, by omega, ?_⟩⟩
        · show (cl' (48 * x + 4 * i)).toInt = _
          rw [k0]
          exact zin (by omega)
        · show (cl' (48 * x + 4 * i + 1)).toInt = _
          rw [k1]
          exact zin (by omega)
        · refine zLL_ag s1.s (fun j hj => ?_) (fun j hj => rfl)
          exact if_neg (by omega)
        · show cl' (48 * x + 4 * i + 2) < 0
          rw [k2]
          decide
        · exact if_pos (by omega)
        · rw [zpc_ag (g := z1.2.2.1.2) _ _ (fun j h1 h2 => if_neg (by omega))]
          omega
      · have hpi := hp i (by omega)
        rw [if_neg (by omega), if_neg (by omega)]
        refine ⟨by omega, zCb_ag hpi.2 (fun j hj => ?_) (fun j hj => ?_) (fun r hr => ?_) (by omega)⟩
        · exact (if_neg (by omega)).trans (s1.p1 j (by omega))
        · exact s1.p2 j (by omega)
        · exact ko _ (by omega)
theorem zIv_k {f : Nat → Int32} {t x : Nat} (ht : t ≤ 400) : ∀ (k i : Nat) (z zf : lb_Z) (r1 : lb_Y) (cl cl1 cl' : Nat → Int32) (cc cc1 cc' : Nat), zIv t x z cl cc → lb_cs f t k i z (.inr zf) → mg_c1 f t x i z r1 cl cc cl1 cc1 → lb_th r1 (.inr zf) (fun z1 => ∃ k, mg_c2 f t x k (i + 1) z1 (.inr zf) cl1 cc1 cl' cc') → zIv t x zf cl' cc' := by
  intro k
  induction k with
  | zero => intro i z zf r1 cl cl1 cl' cc cc1 cc' _ h; exact h.elim
  | succ k ih =>
    intro i z zf r1 cl cl1 cl' cc cc1 cc' hI h h1 h2
    rcases h2 with ⟨c, _, e⟩ | ⟨z2, er, k2, h2⟩
    · cases e
    subst er
    obtain ⟨hc1, hc2⟩ := h1
    obtain ⟨ecc, hD⟩ := hc2 z2 rfl
    subst ecc
    rcases h with ⟨_, e⟩ | ⟨_, _, e⟩ | ⟨a, b, ra, hs, h⟩
    · cases e
    · cases e
    rcases h with ⟨c, _, e⟩ | ⟨z1, er, rb, hi, h⟩
    · cases e
    subst er
    rcases h with ⟨c, _, e⟩ | ⟨z2', er, h⟩
    · cases e
    subst er
    have ez : z2' = z2 := by
      rcases hc1 with ⟨a', _⟩ | ⟨_, b', _⟩ | ⟨_, _, ra', hs', hh⟩
      · exact absurd a a'
      · omega
      · have e := lb_sum_det hs hs'
        subst e
        rcases hh with ⟨c, e, _⟩ | ⟨z1', e, hh⟩
        · cases e
        · cases e
          exact Sum.inr.inj (lb_if_det hi hh)
    subst ez
    have hI1 := zIv_1 ht hI a hs hi hD
    cases k2 with
    | zero => exact h2.elim
    | succ k2 =>
      rcases h with ⟨g, h⟩ | ⟨g, h⟩ | ⟨_, _, h⟩
      · rcases h2 with ⟨g', rc, cl2, cc2, h3, h2⟩ | ⟨g', _⟩ | ⟨g', _, _⟩
        · have hlt := lb_g_lt (f := f) (t := t) (p := z2'.1) (by rw [g]; decide)
          have q := lb_s_le (f := f) (t := t) (t - (z2'.1 + 1)) (z2'.1 + 1) (by omega)
          have pl := hI1.l
          exact ih (i + 1) (lb_s f t (z2'.1 + 1), z2'.2.1, z2'.2.2) zf rc cl1 cl2 cl' (cc + 1) cc2 cc' ⟨q.2, hI1.m, by dsimp only; omega, hI1.d, hI1.p⟩ h h3 (lb_th_up (fun z1 q => ⟨k2, q⟩) h2)
        · rw [g] at g'
          exact absurd g' (by decide)
        · exact absurd g g'
      · have e := Sum.inr.inj h
        subst e
        rcases h2 with ⟨g', _⟩ | ⟨_, _, e1, e2⟩ | ⟨_, g', _⟩
        · rw [g] at g'
          exact absurd g' (by decide)
        · subst e1
          subst e2
          exact hI1
        · exact absurd g g'
      · cases h
/-- the rule both hold -/
theorem zIv_ru {f : Nat → Int32} {t x k : Nat} {zf : lb_Z} {cl0 cl' : Nat → Int32} {cc' : Nat} (ht : t ≤ 400) (h : lb_cs f t k 0 (lb_s f t 0, 0, ((0, fun _ => 0), (0, fun _ => 0))) (.inr zf)) (h3 : mg_c3 f t x (lb_s f t 0, 0, ((0, fun _ => 0), (0, fun _ => 0))) (.inr zf) cl0 cl' cc') : zRu zf.2.2.1.2 zf.2.2.2.2 (fun j => cl' (48 * x + j)) cc' zf.2.2.1.1 ∧ zf.2.2.1.1 ≤ 400 ∧ zf.2.2.2.1 ≤ zf.2.2.1.1 := by
  obtain ⟨r1, cl1, cc1, h1, h2⟩ := h3
  have q := lb_s_le (f := f) (t := t) t 0 (by omega)
  have hI : zIv t x (lb_s f t 0, 0, ((0, fun _ => 0), (0, fun _ => 0))) cl0 0 := ⟨q.2, Nat.zero_le _, Nat.zero_le _, Nat.le_refl _, fun _ => 0, rfl, rfl, fun i hi => by omega⟩
  have z := zIv_k ht k 0 _ zf r1 cl0 cl1 cl' 0 cc1 cc' hI h h1 h2
  obtain ⟨pl, hm, hl, hd, pos, p0, pc, hp⟩ := z
  refine ⟨⟨pos, p0, pc, fun i hi => ?_⟩, by omega, hd⟩
  have := (zCb_l (hp i hi).2 (by omega)).1
  have e : (fun r => cl' (48 * x + 4 * i + r)) = (fun r => (fun j => cl' (48 * x + j)) (4 * i + r)) := by
    funext r
    show _ = cl' (48 * x + (4 * i + r))
    rw [Nat.add_assoc]
  rw [e] at this
  exact this
