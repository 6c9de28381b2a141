/-! a rule, as both sides hold it -/
def zsg (g h : Nat → Int32) (m a n b : Nat) (B : Int64 → Prop) : Prop := (∀ w, ∃ v, B v ∧ ∀ st, zcr w g m a st = some (v :: st) ∧ zrr w h n b st = some (v :: st)) ∧ (∀ j, a ≤ j → j < a + m → g j ≠ Int32.ofInt 22 ∧ g j ≠ Int32.ofInt 23) ∧ (∀ j, b ≤ j → j < b + n → zwk (h j))
theorem zcr_len {w : Nat → Int64} {g : Nat → Int32} : ∀ (n a : Nat) (st s : List Int64), zcr w g n a st = some s → s.length ≤ st.length + zpc g n a := by
  intro n
  induction n with
  | zero =>
    intro a st s h
    cases h
    exact Nat.le_add_right _ _
  | succ n ih =>
    intro a st s h
    rw [zcr] at h
    cases hz : zcs w (g a) st with
    | none =>
      rw [hz] at h
      cases h
    | some s1 =>
      rw [hz] at h
      have a1 := zcs_len hz
      have a2 := ih (a + 1) s1 s h
      rw [zpc]
      omega
def zCl (g h : Nat → Int32) (cl : Nat → Int32) (a a' : Nat) : Prop := ∃ m1 n0 n1 : Nat, (cl 0).toInt = n0 ∧ (cl 1).toInt = n1 ∧ n0 ≤ n1 ∧ n1 ≤ 400 ∧ zsg g h m1 a (n1 - n0) n0 (fun _ => True) ∧
  ((cl 2 < 0 ∧ g (a + m1) = Int32.ofInt 22 ∧ a' = a + m1 + 1 ∧ zpc g m1 a ≤ 60) ∨
   (∃ m2 n2 n3 : Nat, (cl 2).toInt = n2 ∧ (cl 3).toInt = n3 ∧ n2 ≤ n3 ∧ n3 ≤ 400 ∧ zsg g h m2 (a + m1) (n3 - n2) n2 (fun v => v = 0 ∨ v = 1) ∧ g (a + m1 + m2) = Int32.ofInt 23 ∧ a' = a + m1 + m2 + 1 ∧ zpc g m1 a + zpc g m2 (a + m1) ≤ 60))
def zRu (g h : Nat → Int32) (cl : Nat → Int32) (k ln : Nat) : Prop := ∃ pos : Nat → Nat, pos 0 = 0 ∧ pos k = ln ∧ (∀ i, i < k → zCl g h (fun r => cl (4 * i + r)) (pos i) (pos (i + 1)))
theorem zCl_lt {g h cl : Nat → Int32} {a a' : Nat} (c : zCl g h cl a a') : a < a' := by
  obtain ⟨m1, n0, n1, _, _, _, _, _, c | ⟨m2, n2, n3, _, _, _, _, _, _, c, _⟩⟩ := c
  · have := c.2.2.1
    omega
  · omega
theorem zpos_le {g h cl : Nat → Int32} {k : Nat} {pos : Nat → Nat} (hc : ∀ i, i < k → zCl g h (fun r => cl (4 * i + r)) (pos i) (pos (i + 1))) : ∀ m i, i + m = k → pos i ≤ pos k := by
  intro m
  induction m with
  | zero => intro i hi; rw [show i = k from by omega]; exact Nat.le_refl _
  | succ m ih =>
    intro i hi
    have a := ih (i + 1) (by omega)
    have b := zCl_lt (hc i (by omega))
    omega
/-- the reference reckons a stretch -/
theorem zr_seg {p : Nat → Nat} {t b e : Int32} {T n0 n1 : Nat} {w : Nat → Int64} {J : Nat → Nat → Int32} {L : Nat → Nat → Int64} {h : Nat → Int32} {v : Int64} (hp : zpd p) (ht : t.toInt = (T : Nat)) (hT : T < 6) (hb : b.toInt = (n0 : Nat)) (he : e.toInt = (n1 : Nat)) (hle : n0 ≤ n1) (hE : n1 ≤ 400) (hg : ∀ j, j < 400 → J (p 1) (400 * T + j) = h j) (hw : ∀ k, k < 10 → L (p 6) k = w k) (hk : ∀ j, n0 ≤ j → j < n0 + (n1 - n0) → zwk (h j)) (hr : zrr w h (n1 - n0) n0 [] = some [v]) : (x198 p t b e J L).1 = v ∧ (∀ a, a ≠ p 0 → (x198 p t b e J L).2.1 a = J a) ∧ (∀ a, a ≠ p 5 → (x198 p t b e J L).2.2 a = L a) := by
  have h0 : zRS p w (nt_u J (p 0) 25 (Int32.ofInt 0)) L J L [] := ⟨by rw [me_us]; rfl, trivial, hw, fun a ha => me_uo ha, fun j hj => me_uk hj, fun _ _ => rfl⟩
  obtain ⟨J1, L1, h1, e1⟩ := zr_run (t := t) (e := e) hp ht hT he hE (fun j hj => hg j (by omega)) (n1 - n0) n0 [] [v] _ _ h0 (by omega) (by simp; omega) hk hr
  have q := zr_pop h1 (by simp)
  have eb : b = Int32.ofInt (n0 : Int) := z_eqn hb (by omega)
  have ef : (e.toInt - b.toInt).toNat = n1 - n0 := by omega
  unfold x198
  rw [ef, eb, e1]
  exact ⟨q.1, fun a ha => q.2.oj a ha, fun a ha => q.2.ol a ha⟩
theorem z_cb {b : Int64} (h : b = 0 ∨ b = 1) : (lg_cmp b (Int64.ofNat 0) = 0 ↔ b = 0) ∧ (lg_cmp b (Int64.ofNat 1) = 0 ↔ b = 1) := by
  rcases h with rfl | rfl <;> decide
/-- both take a plank, or neither; and by the same sum -/
theorem zT_l {p : Nat → Nat} {sp ln k T : Nat} {t : Int32} {w : Nat → Int64} {g h cl : Nat → Int32} {Jc0 Jr0 : Nat → Nat → Int32} {Lc0 Lr0 : Nat → Nat → Int64} {pos : Nat → Nat} (hp : zpd p) (hsp : sp ≠ p 25) (hln : ln ≤ 400) (hk : k ≤ 12) (ht : t.toInt = (T : Nat)) (hT : T < 6)
    (hg : ∀ j, j < ln → Jc0 sp j = g j) (hh : ∀ j, j < 400 → Jr0 (p 1) (400 * T + j) = h j) (hcl : ∀ j, j < 48 → Jr0 (p 2) (48 * T + j) = cl j) (hck : (Jr0 (p 3) T).toInt = (k : Nat))
    (hpk : pos k = ln) (hc : ∀ i, i < k → zCl g h (fun r => cl (4 * i + r)) (pos i) (pos (i + 1))) :
    ∀ (m i : Nat) (Jc Jr : Nat → Nat → Int32) (Lc Lr : Nat → Nat → Int64), i + m = k → zCS p w Jc Lc Jc0 Lc0 [] → (∀ a, a ≠ p 0 → Jr a = Jr0 a) → (∀ a, a ≠ p 5 → Lr a = Lr0 a) → (∀ j, j < 10 → Lr0 (p 6) j = w j) →
    ((x41_7 p sp ln (ln - pos i) (Int32.ofInt ((pos i : Nat) : Int)) Jc Lc).1 = Int32.ofInt 0 ∧ (x197_2 p t m (Int32.ofInt (i : Int)) Jr Lr).1 = Int32.ofInt (-1)) ∨
    ((x41_7 p sp ln (ln - pos i) (Int32.ofInt ((pos i : Nat) : Int)) Jc Lc).1 = Int32.ofInt 1 ∧ 0 ≤ (x197_2 p t m (Int32.ofInt (i : Int)) Jr Lr).1.toInt ∧
      (x41_7 p sp ln (ln - pos i) (Int32.ofInt ((pos i : Nat) : Int)) Jc Lc).2.2 (p 25) 3 = (x198 p t (Jr0 (p 2) ((x197_2 p t m (Int32.ofInt (i : Int)) Jr Lr).1.toNatClampNeg)) (Jr0 (p 2) (((x197_2 p t m (Int32.ofInt (i : Int)) Jr Lr).1 + Int32.ofInt 1).toNatClampNeg)) (x197_2 p t m (Int32.ofInt (i : Int)) Jr Lr).2.1 (x197_2 p t m (Int32.ofInt (i : Int)) Jr Lr).2.2).1) := by
  have i48 : ∀ i r : Nat, i < 12 → r < 4 → ((((Int32.ofInt 48) * t) + ((Int32.ofInt 4) * Int32.ofInt (i : Int))) + Int32.ofInt (r : Int)).toInt = ((48 * T + 4 * i + r : Nat) : Int) := by
    intro i r hi hr
    rw [Int32.toInt_add, Int32.toInt_add, Int32.toInt_mul, Int32.toInt_mul, xi_k (by omega), xi_k (by omega), ht, show (Int32.ofInt 48).toInt = 48 from by decide, show (Int32.ofInt 4).toInt = 4 from by decide, Int.bmod_eq_of_le (n := (48 * T : Int)) (by omega) (by omega), Int.bmod_eq_of_le (n := (4 * i : Int)) (by omega) (by omega), Int.bmod_eq_of_le (n := (48 * T + 4 * i : Int)) (by omega) (by omega), Int.bmod_eq_of_le (by omega) (by omega)]
    omega
  have i480 : ∀ i : Nat, i < 12 → (((Int32.ofInt 48) * t) + ((Int32.ofInt 4) * Int32.ofInt (i : Int))).toInt = ((48 * T + 4 * i : Nat) : Int) := by
    intro i hi
    have z := i48 i 0 hi (by omega)
    rw [show ((((Int32.ofInt 48) * t) + ((Int32.ofInt 4) * Int32.ofInt (i : Int))) + Int32.ofInt ((0 : Nat) : Int)) = (((Int32.ofInt 48) * t) + ((Int32.ofInt 4) * Int32.ofInt (i : Int))) from Int32.add_zero _] at z
    exact z
  have n0 : p 1 ≠ p 0 := hp 1 0 (by omega) (by omega) (by omega)
  have n2 : p 2 ≠ p 0 := hp 2 0 (by omega) (by omega) (by omega)
  have n3 : p 3 ≠ p 0 := hp 3 0 (by omega) (by omega) (by omega)
  have n6 : p 6 ≠ p 5 := hp 6 5 (by omega) (by omega) (by omega)
  intro m
  induction m with
  | zero =>
    intro i Jc Jr Lc Lr hi hC hJ hL hw
    left
    rw [show i = k from by omega, hpk, Nat.sub_self]
    exact ⟨rfl, rfl⟩
  | succ m ih =>
    intro i Jc Jr Lc Lr hi hC hJ hL hw
    have ci := hc i (by omega)
    have pl : pos (i + 1) ≤ ln := by
      rw [← hpk]
      exact zpos_le hc m (i + 1) (by omega)
    have i12 : i < 12 := by omega
    have rd : ∀ r : Nat, r < 4 → Jr (p 2) (48 * T + 4 * i + r) = cl (4 * i + r) := by
      intro r hr
      rw [hJ _ n2, show 48 * T + 4 * i + r = 48 * T + (4 * i + r) from by omega]
      exact hcl _ (by omega)
    have rd0 : ∀ r : Nat, r < 4 → Jr0 (p 2) (48 * T + 4 * i + r) = cl (4 * i + r) := by
      intro r hr
      rw [show 48 * T + 4 * i + r = 48 * T + (4 * i + r) from by omega]
      exact hcl _ (by omega)
    have sg : ∀ j, j < 400 → Jr (p 1) (400 * T + j) = h j := fun j hj => by rw [hJ _ n0]; exact hh j hj
    have wr : ∀ j, j < 10 → Lr (p 6) j = w j := fun j hj => by rw [hL _ n6]; exact hw j hj
    have nb : ¬ Jr (p 3) t.toNatClampNeg ≤ Int32.ofInt (i : Int) := fun c => by
      have c := z_ge.mp c
      rw [z_i3 ht, hJ _ n3, hck, xi_k (by omega)] at c
      omega
    have e1 : Int32.ofInt (i : Int) + Int32.ofInt 1 = Int32.ofInt ((i + 1 : Nat) : Int) := by
      rw [← Int32.ofInt_add]
      rfl
    have a2 : ((((Int32.ofInt 48) * t) + ((Int32.ofInt 4) * Int32.ofInt (i : Int))) + Int32.ofInt 2).toNatClampNeg = 48 * T + 4 * i + 2 := z_i3 (i48 i 2 i12 (by omega))
    have a3 : ((((Int32.ofInt 48) * t) + ((Int32.ofInt 4) * Int32.ofInt (i : Int))) + Int32.ofInt 3).toNatClampNeg = 48 * T + 4 * i + 3 := z_i3 (i48 i 3 i12 (by omega))
    have a1 : ((((Int32.ofInt 48) * t) + ((Int32.ofInt 4) * Int32.ofInt (i : Int))) + Int32.ofInt 1).toNatClampNeg = 48 * T + 4 * i + 1 := z_i3 (i48 i 1 i12 (by omega))
    have a0 : (((Int32.ofInt 48) * t) + ((Int32.ofInt 4) * Int32.ofInt (i : Int))).toNatClampNeg = 48 * T + 4 * i := z_i3 (i480 i i12)
    obtain ⟨m1, c0, c1, h0, h1, hle, h400, hs, hrest⟩ := ci
    obtain ⟨v, _, hvs⟩ := hs.1 w
    obtain ⟨hv1, hv2⟩ := hvs []
    -- the sum of this clause, as the reference reckons it in any memory of this rule
    have sum : ∀ (J : Nat → Nat → Int32) (L : Nat → Nat → Int64), (∀ a, a ≠ p 0 → J a = Jr0 a) → (∀ a, a ≠ p 5 → L a = Lr0 a) → (x198 p t (Jr0 (p 2) (48 * T + 4 * i)) (Jr0 (p 2) (48 * T + 4 * i + 1)) J L).1 = v := by
      intro J L hJ hL
      exact (zr_seg hp ht hT (by rw [show Jr0 (p 2) (48 * T + 4 * i) = cl (4 * i + 0) from rd0 0 (by omega)]; exact h0) (by rw [rd0 1 (by omega)]; exact h1) hle h400 (fun j hj => by rw [hJ _ n0]; exact hh j hj) (fun j hj => by rw [hL _ n6]; exact hw j hj) hs.2.2 hv2).1
    rcases hrest with ⟨c2, g22, ea', hpc⟩ | ⟨m2, d2, d3, h2, h3, hle2, h4002, hs2, g23, ea', hpc⟩
    · obtain ⟨J1, L1, hC1, er⟩ := zc_run hp hsp hg hln m1 (pos i) (ln - pos i - m1) [] [v] Jc Lc hC (by omega) (by simp; omega) hs.2.1 hv1
      rw [show ln - pos i - m1 + m1 = ln - pos i from by omega] at er
      have ex : x41_7 p sp ln (ln - pos i - m1) (Int32.ofInt ((pos i + m1 : Nat) : Int)) J1 L1 = (Int32.ofInt 1, J1, nt_u L1 (p 25) 3 (L1 (p 27) 0)) := by
        rw [show ln - pos i - m1 = (ln - pos i - m1 - 1) + 1 from by omega, x41_7, if_neg (fun c => by
          have c := z_ge.mp c
          rw [xi_k (by omega), show Int32.ofNat ln = Int32.ofInt (ln : Int) from rfl, xi_k (by omega)] at c
          omega), zi_o (by omega), show J1 sp (pos i + m1) = Int32.ofInt 22 from by rw [hC1.oj sp hsp, hg _ (by omega), g22]]
        rfl
      rw [er, ex, x197_2, if_neg nb, a2, rd 2 (by omega), if_pos c2]
      right
      refine ⟨rfl, ?_, ?_⟩
      · show 0 ≤ (((Int32.ofInt 48) * t) + ((Int32.ofInt 4) * Int32.ofInt (i : Int))).toInt
        rw [i480 i i12]
        omega
      · show nt_u L1 (p 25) 3 (L1 (p 27) 0) (p 25) 3 = (x198 p t (Jr0 (p 2) (((Int32.ofInt 48) * t) + ((Int32.ofInt 4) * Int32.ofInt (i : Int))).toNatClampNeg) (Jr0 (p 2) ((((Int32.ofInt 48) * t) + ((Int32.ofInt 4) * Int32.ofInt (i : Int))) + Int32.ofInt 1).toNatClampNeg) Jr Lr).1
        rw [mu_s, a0, a1, sum Jr Lr hJ hL]
        exact hC1.row.1
    · obtain ⟨b, hb, hbs⟩ := hs2.1 w
      have hb1 := (hbs [v]).1
      have hl1 : 1 ≤ zpc g m1 (pos i) := by
        have := zcr_len _ _ _ _ hv1
        simp at this
        omega
      have hb2 := (hbs []).2
      obtain ⟨J1, L1, hC1, er⟩ := zc_run hp hsp hg hln m1 (pos i) (ln - pos i - m1) [] [v] Jc Lc hC (by omega) (by simp; omega) hs.2.1 hv1
      rw [show ln - pos i - m1 + m1 = ln - pos i from by omega] at er
      obtain ⟨J2, L2, hC2, er2⟩ := zc_run hp hsp hg hln m2 (pos i + m1) (ln - pos i - m1 - m2) [v] [b, v] J1 L1 hC1 (by omega) (by simp; omega) hs2.2.1 hb1
      rw [show ln - pos i - m1 - m2 + m2 = ln - pos i - m1 from by omega] at er2
      have ex : x41_7 p sp ln (ln - pos i - m1 - m2) (Int32.ofInt ((pos i + m1 + m2 : Nat) : Int)) J2 L2 = if lg_cmp b (Int64.ofNat 0) = 0 then x41_7 p sp ln (ln - pos (i + 1)) (Int32.ofInt ((pos (i + 1) : Nat) : Int)) (nt_u J2 (p 25) 2 (Int32.ofInt 0)) L2 else (Int32.ofInt 1, J2, nt_u L2 (p 25) 3 (L2 (p 27) 0)) := by
        rw [show ln - pos i - m1 - m2 = (ln - pos (i + 1)) + 1 from by omega, x41_7, if_neg (fun c => by
          have c := z_ge.mp c
          rw [xi_k (by omega), show Int32.ofNat ln = Int32.ofInt (ln : Int) from rfl, xi_k (by omega)] at c
          omega), zi_o (by omega), show J2 sp (pos i + m1 + m2) = Int32.ofInt 23 from by rw [hC2.oj sp hsp, hg _ (by omega), g23], show L2 (p 27) 1 = b from hC2.row.1, show Int32.ofInt ((pos i + m1 + m2 : Nat) : Int) + Int32.ofInt 1 = Int32.ofInt ((pos (i + 1) : Nat) : Int) from by rw [← Int32.ofInt_add, ea']; rfl]
        rfl
      have q := zr_seg (b := Jr (p 2) (48 * T + 4 * i + 2)) (e := Jr (p 2) (48 * T + 4 * i + 3)) (J := Jr) (L := Lr) hp ht hT (by rw [rd 2 (by omega)]; exact h2) (by rw [rd 3 (by omega)]; exact h3) hle2 h4002 sg wr hs2.2.2 hb2
      have nc2 : ¬ Jr (p 2) (48 * T + 4 * i + 2) < 0 := fun c => by
        have c := z_le0.mp c
        rw [rd 2 (by omega), h2] at c
        omega
      have er3 : x197_2 p t (m + 1) (Int32.ofInt (i : Int)) Jr Lr = if lg_cmp b (Int64.ofNat 1) = 0 then ((((Int32.ofInt 48) * t) + ((Int32.ofInt 4) * Int32.ofInt (i : Int))), (x198 p t (Jr (p 2) (48 * T + 4 * i + 2)) (Jr (p 2) (48 * T + 4 * i + 3)) Jr Lr).2.1, (x198 p t (Jr (p 2) (48 * T + 4 * i + 2)) (Jr (p 2) (48 * T + 4 * i + 3)) Jr Lr).2.2) else x197_2 p t m (Int32.ofInt ((i + 1 : Nat) : Int)) (x198 p t (Jr (p 2) (48 * T + 4 * i + 2)) (Jr (p 2) (48 * T + 4 * i + 3)) Jr Lr).2.1 (x198 p t (Jr (p 2) (48 * T + 4 * i + 2)) (Jr (p 2) (48 * T + 4 * i + 3)) Jr Lr).2.2 := by
        rw [x197_2, if_neg nb, a2, a3, if_neg nc2, q.1, e1]
      have hJ2 : ∀ a, a ≠ p 0 → (x198 p t (Jr (p 2) (48 * T + 4 * i + 2)) (Jr (p 2) (48 * T + 4 * i + 3)) Jr Lr).2.1 a = Jr0 a := fun a ha => (q.2.1 a ha).trans (hJ a ha)
      have hL2 : ∀ a, a ≠ p 5 → (x198 p t (Jr (p 2) (48 * T + 4 * i + 2)) (Jr (p 2) (48 * T + 4 * i + 3)) Jr Lr).2.2 a = Lr0 a := fun a ha => (q.2.2 a ha).trans (hL a ha)
      rw [er, er2, ex, er3]
      by_cases c : b = 0
      · rw [if_pos ((z_cb hb).1.mpr c), if_neg (fun d => by rw [(z_cb hb).2.mp d] at c; exact absurd c (by decide))]
        have hC3 : zCS p w (nt_u J2 (p 25) 2 (Int32.ofInt 0)) L2 Jc0 Lc0 [] := ⟨by rw [me_us]; rfl, by simp, trivial, hC2.wd, fun a ha => (me_uo ha).trans (hC2.oj a ha), fun j hj => (me_uk hj).trans (hC2.oj2 j hj), hC2.ol⟩
        exact ih (i + 1) _ _ _ _ (by omega) hC3 hJ2 hL2 hw
      · have c1 : b = 1 := by
          rcases hb with h | h
          · exact absurd h c
          · exact h
        rw [if_neg (fun d => c ((z_cb hb).1.mp d)), if_pos ((z_cb hb).2.mpr c1)]
        right
        refine ⟨rfl, ?_, ?_⟩
        · show 0 ≤ (((Int32.ofInt 48) * t) + ((Int32.ofInt 4) * Int32.ofInt (i : Int))).toInt
          rw [i480 i i12]
          omega
        · show nt_u L2 (p 25) 3 (L2 (p 27) 0) (p 25) 3 = (x198 p t (Jr0 (p 2) (((Int32.ofInt 48) * t) + ((Int32.ofInt 4) * Int32.ofInt (i : Int))).toNatClampNeg) (Jr0 (p 2) ((((Int32.ofInt 48) * t) + ((Int32.ofInt 4) * Int32.ofInt (i : Int))) + Int32.ofInt 1).toNatClampNeg) _ _).1
          rw [mu_s, a0, a1, sum _ _ hJ2 hL2]
          exact hC2.row.2.1
/-- what is known of a rule's cells -/
def zRQ (p : Nat → Nat) (sp ln T : Nat) (Jc Jr : Nat → Nat → Int32) : Prop := (sp ≠ p 25) ∧ (ln ≤ 400) ∧ (T < 6) ∧ (∃ g h cl k, k ≤ 12 ∧ (∀ j, j < ln → Jc sp j = g j) ∧ (∀ j, j < 400 → Jr (p 1) (400 * T + j) = h j) ∧ (∀ j, j < 48 → Jr (p 2) (48 * T + j) = cl j) ∧ (Jr (p 3) T).toInt = ((k : Nat) : Int) ∧ zRu g h cl k ln)
theorem zRQ.sp25 {p : Nat → Nat} {sp ln T : Nat} {Jc Jr : Nat → Nat → Int32} (h_ : zRQ p sp ln T Jc Jr) : sp ≠ p 25 := h_.1
theorem zRQ.ln4 {p : Nat → Nat} {sp ln T : Nat} {Jc Jr : Nat → Nat → Int32} (h_ : zRQ p sp ln T Jc Jr) : ln ≤ 400 := h_.2.1
theorem zRQ.T6 {p : Nat → Nat} {sp ln T : Nat} {Jc Jr : Nat → Nat → Int32} (h_ : zRQ p sp ln T Jc Jr) : T < 6 := h_.2.2.1
theorem zRQ.ru {p : Nat → Nat} {sp ln T : Nat} {Jc Jr : Nat → Nat → Int32} (h_ : zRQ p sp ln T Jc Jr) : ∃ g h cl k, k ≤ 12 ∧ (∀ j, j < ln → Jc sp j = g j) ∧ (∀ j, j < 400 → Jr (p 1) (400 * T + j) = h j) ∧ (∀ j, j < 48 → Jr (p 2) (48 * T + j) = cl j) ∧ (Jr (p 3) T).toInt = ((k : Nat) : Int) ∧ zRu g h cl k ln := h_.2.2.2
theorem zT {p : Nat → Nat} {sp ln T : Nat} {t : Int32} {Jc Jr : Nat → Nat → Int32} {Lc Lr : Nat → Nat → Int64} (hp : zpd p) (hr : zRQ p sp ln T Jc Jr) (ht : t.toInt = (T : Nat)) (hw : ∀ j, j < 10 → Lc (p 26) j = Lr (p 6) j) :
    ((x41 p sp ln Jc Lc).1 = Int32.ofInt 0 ∧ (x197 p t Jr Lr).1 = Int32.ofInt (-1)) ∨
    ((x41 p sp ln Jc Lc).1 = Int32.ofInt 1 ∧ 0 ≤ (x197 p t Jr Lr).1.toInt ∧ (x41 p sp ln Jc Lc).2.2 (p 25) 3 = (x198 p t (Jr (p 2) ((x197 p t Jr Lr).1.toNatClampNeg)) (Jr (p 2) (((x197 p t Jr Lr).1 + Int32.ofInt 1).toNatClampNeg)) (x197 p t Jr Lr).2.1 (x197 p t Jr Lr).2.2).1) := by
  obtain ⟨g, h, cl, k, hk, hg, hh, hcl, hck, pos, p0, pk, hc⟩ := hr.ru
  have hC : zCS p (fun j => Lr (p 6) j) (nt_u Jc (p 25) 2 (Int32.ofInt 0)) Lc Jc Lc [] := ⟨by rw [me_us]; rfl, by simp, trivial, hw, fun a ha => me_uo ha, fun j hj => me_uk hj, fun _ _ _ => rfl⟩
  have z := zT_l hp hr.sp25 hr.ln4 hk ht hr.T6 hg hh hcl hck pk hc k 0 (nt_u Jc (p 25) 2 (Int32.ofInt 0)) Jr Lc Lr (by omega) hC (fun _ _ => rfl) (fun _ _ => rfl) (fun _ _ => rfl)
  rw [p0] at z
  have e1 : x41 p sp ln Jc Lc = x41_7 p sp ln (ln - 0) (Int32.ofInt ((0 : Nat) : Int)) (nt_u Jc (p 25) 2 (Int32.ofInt 0)) Lc := by
    unfold x41
    rw [show (Int32.ofNat ln).toNatClampNeg = ln - 0 from zi_o (by have := hr.ln4; omega)]
    rfl
  have e2 : x197 p t Jr Lr = x197_2 p t k (Int32.ofInt ((0 : Nat) : Int)) Jr Lr := by
    unfold x197
    rw [z_i3 ht, z_i3 hck]
    rfl
  rw [e1, e2]
  exact z
