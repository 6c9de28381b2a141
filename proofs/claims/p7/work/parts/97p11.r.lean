/-! words told, a plank chosen: both sides -/
theorem zw10 {L : Nat → Nat → Int64} {a : Nat} {v0 v1 v2 v3 v4 v5 v6 v7 v8 v9 : Int64} : (nt_u (nt_u (nt_u (nt_u (nt_u (nt_u (nt_u (nt_u (nt_u (nt_u L a 0 v0) a 1 v1) a 2 v2) a 3 v3) a 4 v4) a 5 v5) a 6 v6) a 7 v7) a 8 v8) a 9 v9) a 0 = v0 ∧ (nt_u (nt_u (nt_u (nt_u (nt_u (nt_u (nt_u (nt_u (nt_u (nt_u L a 0 v0) a 1 v1) a 2 v2) a 3 v3) a 4 v4) a 5 v5) a 6 v6) a 7 v7) a 8 v8) a 9 v9) a 1 = v1 ∧ (nt_u (nt_u (nt_u (nt_u (nt_u (nt_u (nt_u (nt_u (nt_u (nt_u L a 0 v0) a 1 v1) a 2 v2) a 3 v3) a 4 v4) a 5 v5) a 6 v6) a 7 v7) a 8 v8) a 9 v9) a 2 = v2 ∧ (nt_u (nt_u (nt_u (nt_u (nt_u (nt_u (nt_u (nt_u (nt_u (nt_u L a 0 v0) a 1 v1) a 2 v2) a 3 v3) a 4 v4) a 5 v5) a 6 v6) a 7 v7) a 8 v8) a 9 v9) a 3 = v3 ∧ (nt_u (nt_u (nt_u (nt_u (nt_u (nt_u (nt_u (nt_u (nt_u (nt_u L a 0 v0) a 1 v1) a 2 v2) a 3 v3) a 4 v4) a 5 v5) a 6 v6) a 7 v7) a 8 v8) a 9 v9) a 4 = v4 ∧ (nt_u (nt_u (nt_u (nt_u (nt_u (nt_u (nt_u (nt_u (nt_u (nt_u L a 0 v0) a 1 v1) a 2 v2) a 3 v3) a 4 v4) a 5 v5) a 6 v6) a 7 v7) a 8 v8) a 9 v9) a 5 = v5 ∧ (nt_u (nt_u (nt_u (nt_u (nt_u (nt_u (nt_u (nt_u (nt_u (nt_u L a 0 v0) a 1 v1) a 2 v2) a 3 v3) a 4 v4) a 5 v5) a 6 v6) a 7 v7) a 8 v8) a 9 v9) a 6 = v6 ∧ (nt_u (nt_u (nt_u (nt_u (nt_u (nt_u (nt_u (nt_u (nt_u (nt_u L a 0 v0) a 1 v1) a 2 v2) a 3 v3) a 4 v4) a 5 v5) a 6 v6) a 7 v7) a 8 v8) a 9 v9) a 7 = v7 ∧ (nt_u (nt_u (nt_u (nt_u (nt_u (nt_u (nt_u (nt_u (nt_u (nt_u L a 0 v0) a 1 v1) a 2 v2) a 3 v3) a 4 v4) a 5 v5) a 6 v6) a 7 v7) a 8 v8) a 9 v9) a 8 = v8 ∧ (nt_u (nt_u (nt_u (nt_u (nt_u (nt_u (nt_u (nt_u (nt_u (nt_u L a 0 v0) a 1 v1) a 2 v2) a 3 v3) a 4 v4) a 5 v5) a 6 v6) a 7 v7) a 8 v8) a 9 v9) a 9 = v9 := ⟨(mu_k (by decide)).trans ((mu_k (by decide)).trans ((mu_k (by decide)).trans ((mu_k (by decide)).trans ((mu_k (by decide)).trans ((mu_k (by decide)).trans ((mu_k (by decide)).trans ((mu_k (by decide)).trans ((mu_k (by decide)).trans (mu_s))))))))), (mu_k (by decide)).trans ((mu_k (by decide)).trans ((mu_k (by decide)).trans ((mu_k (by decide)).trans ((mu_k (by decide)).trans ((mu_k (by decide)).trans ((mu_k (by decide)).trans ((mu_k (by decide)).trans (mu_s)))))))), (mu_k (by decide)).trans ((mu_k (by decide)).trans ((mu_k (by decide)).trans ((mu_k (by decide)).trans ((mu_k (by decide)).trans ((mu_k (by decide)).trans ((mu_k (by decide)).trans (mu_s))))))), (mu_k (by decide)).trans ((mu_k (by decide)).trans ((mu_k (by decide)).trans ((mu_k (by decide)).trans ((mu_k (by decide)).trans ((mu_k (by decide)).trans (mu_s)))))), (mu_k (by decide)).trans ((mu_k (by decide)).trans ((mu_k (by decide)).trans ((mu_k (by decide)).trans ((mu_k (by decide)).trans (mu_s))))), (mu_k (by decide)).trans ((mu_k (by decide)).trans ((mu_k (by decide)).trans ((mu_k (by decide)).trans (mu_s)))), (mu_k (by decide)).trans ((mu_k (by decide)).trans ((mu_k (by decide)).trans (mu_s))), (mu_k (by decide)).trans ((mu_k (by decide)).trans (mu_s)), (mu_k (by decide)).trans (mu_s), mu_s⟩
theorem zw_eq {L L' : Nat → Nat → Int64} {a b : Nat} {v0 v1 v2 v3 v4 v5 v6 v7 v8 v9 : Int64} : ∀ k, k < 10 → (nt_u (nt_u (nt_u (nt_u (nt_u (nt_u (nt_u (nt_u (nt_u (nt_u L a 0 v0) a 1 v1) a 2 v2) a 3 v3) a 4 v4) a 5 v5) a 6 v6) a 7 v7) a 8 v8) a 9 v9) a k = (nt_u (nt_u (nt_u (nt_u (nt_u (nt_u (nt_u (nt_u (nt_u (nt_u L' b 0 v0) b 1 v1) b 2 v2) b 3 v3) b 4 v4) b 5 v5) b 6 v6) b 7 v7) b 8 v8) b 9 v9) b k := by
  intro k hk
  have x := zw10 (L := L) (a := a) (v0 := v0) (v1 := v1) (v2 := v2) (v3 := v3) (v4 := v4) (v5 := v5) (v6 := v6) (v7 := v7) (v8 := v8) (v9 := v9)
  have y := zw10 (L := L') (a := b) (v0 := v0) (v1 := v1) (v2 := v2) (v3 := v3) (v4 := v4) (v5 := v5) (v6 := v6) (v7 := v7) (v8 := v8) (v9 := v9)
  obtain ⟨x0, x1, x2, x3, x4, x5, x6, x7, x8, x9⟩ := x
  obtain ⟨y0, y1, y2, y3, y4, y5, y6, y7, y8, y9⟩ := y
  rcases (by omega : k = 0 ∨ k = 1 ∨ k = 2 ∨ k = 3 ∨ k = 4 ∨ k = 5 ∨ k = 6 ∨ k = 7 ∨ k = 8 ∨ k = 9) with rfl | rfl | rfl | rfl | rfl | rfl | rfl | rfl | rfl | rfl
  · exact x0.trans y0.symm
  · exact x1.trans y1.symm
  · exact x2.trans y2.symm
  · exact x3.trans y3.symm
  · exact x4.trans y4.symm
  · exact x5.trans y5.symm
  · exact x6.trans y6.symm
  · exact x7.trans y7.symm
  · exact x8.trans y8.symm
  · exact x9.trans y9.symm
/-- the words of a plank -/
theorem zwords {q p : Nat → Nat} {Jc Jr : Nat → Nat → Int32} {Lc Lr : Nat → Nat → Int64} {i v : Int32} {b : Int} (hR : zR q Jc (Jr (p 4))) (hW : zW (Jr (p 4)) b) (h0 : 0 ≤ i.toInt) (h1 : ¬ Jr (p 4) 2 ≤ i) (v0 : 0 ≤ v.toInt) (v1 : ¬ Jr (p 4) 3 ≤ v) : ∀ k, k < 10 → x8 p q i v Jc Lc (p 26) k = x196 p i (Jc (q 6) v.toNatClampNeg) v Jr Lr (p 6) k := by
  obtain ⟨hn, hi, c0, c1, c2, c3, c4, r0, r1, r2, r3, r4⟩ := zP hR hW.w h0 h1
  obtain ⟨vn, vi, d0, d1, d2, d3, d4, s0, s1, s2, s3, s4⟩ := zV hR hW.w v0 v1
  have hin := hW.b.inn _ hn
  unfold x8 x196 x89
  rw [c0, c1, c2, c3, d0, d1, d2, r0, r1, r2, r3, s1, s2, zR_4 hR, zR_6 hR]
  by_cases n : Jr (p 4) (52 + 5 * i.toNatClampNeg + 3) = Int32.ofInt (-1)
  · have m : ¬ 0 ≤ Jr (p 4) (52 + 5 * i.toNatClampNeg + 3) := by
      rw [n]
      decide
    rw [if_pos n, if_neg m]
    by_cases o : Jr (p 4) (52 + 5 * i.toNatClampNeg + 2) = Jr (p 4) (172 + 5 * v.toNatClampNeg + 0)
    · rw [if_pos o, if_pos o]
      exact zw_eq
    · rw [if_neg o, if_neg o]
      exact zw_eq
  · have m : 0 ≤ Jr (p 4) (52 + 5 * i.toNatClampNeg + 3) := by
      apply z_ge.mpr
      have : (Jr (p 4) (52 + 5 * i.toNatClampNeg + 3)).toInt ≠ -1 := fun c => n (Int32.toInt_inj.mp (by rw [c, xi_m1]))
      rw [show (0 : Int32).toInt = 0 from by decide]
      omega
    rw [if_neg n, if_pos m]
    by_cases o : Jr (p 4) (52 + 5 * i.toNatClampNeg + 2) = Jr (p 4) (172 + 5 * v.toNatClampNeg + 0)
    · rw [if_pos o, if_pos o]
      exact zw_eq
    · rw [if_neg o, if_neg o]
      exact zw_eq
theorem zR_ag {q : Nat → Nat} {J J' : Nat → Nat → Int32} {e : Nat → Int32} (h : zR q J e) (ha : ∀ i, i < 17 → J' (q i) = J (q i)) : zR q J' e := by
  refine ⟨fun j hj => ?_, ?_⟩
  · rw [ha _ (zc_17 j (zv_lt hj))]
    exact h.1 j hj
  · rw [ha 0 (by omega)]
    exact h.2
theorem zRQ_ag {p : Nat → Nat} {sp ln T : Nat} {Jc Jr Jc' Jr' : Nat → Nat → Int32} (h : zRQ p sp ln T Jc Jr) (hc : Jc' sp = Jc sp) (h1 : Jr' (p 1) = Jr (p 1)) (h2 : Jr' (p 2) = Jr (p 2)) (h3 : Jr' (p 3) = Jr (p 3)) : zRQ p sp ln T Jc' Jr' := by
  obtain ⟨g, hh, cl, k, a, b, c, d, e, f⟩ := h.ru
  exact ⟨h.sp25, h.ln4, h.T6, g, hh, cl, k, a, fun j hj => by rw [hc]; exact b j hj, fun j hj => by rw [h1]; exact c j hj, fun j hj => by rw [h2]; exact d j hj, by rw [h3]; exact e, f⟩
/-- the places lie apart -/
def zX (p q : Nat → Nat) : Prop := (zpd p) ∧ (zq q) ∧ (∀ i j, i < 17 → j < 31 → q i ≠ p j)
theorem zX.hp {p q : Nat → Nat} (h_ : zX p q) : zpd p := h_.1
theorem zX.hq {p q : Nat → Nat} (h_ : zX p q) : zq q := h_.2.1
theorem zX.hx {p q : Nat → Nat} (h_ : zX p q) : ∀ i j, i < 17 → j < 31 → q i ≠ p j := h_.2.2
/-- the plank chosen is the plank taken -/
theorem zch_l {p q : Nat → Nat} {sp ln T : Nat} {t v k : Int32} {b : Int} {Jc0 Jr0 : Nat → Nat → Int32} (X : zX p q) (hR : zR q Jc0 (Jr0 (p 4))) (hW : zW (Jr0 (p 4)) b) (hQ : zRQ p sp ln T Jc0 Jr0) (ht : t.toInt = (T : Nat)) (v0 : 0 ≤ v.toInt) (v1 : ¬ Jr0 (p 4) 3 ≤ v) :
    ∀ (c : Nat) (be : Int32) (le : Int64) (i : Int32) (Jc Jr : Nat → Nat → Int32) (Lc Lr : Nat → Nat → Int64), 0 ≤ i.toInt → (be = Int32.ofInt (-1) ∨ (0 ≤ be.toInt ∧ ¬ Jr0 (p 4) 2 ≤ be ∧ ¬ x194 p be (Jr0 (p 4) (172 + 5 * v.toNatClampNeg + 0)) k Jr0 = 0)) → (∀ a, a ≠ p 25 → Jc a = Jc0 a) → (∀ a, a ≠ p 0 → Jr a = Jr0 a) →
    (x6_9 p q sp ln v k c be le i Jc Lc).1 = (x193_9 p t (Jr0 (p 4) (172 + 5 * v.toNatClampNeg + 0)) k v c be le i Jr Lr).1 ∧ ((x6_9 p q sp ln v k c be le i Jc Lc).1 = Int32.ofInt (-1) ∨ (0 ≤ (x6_9 p q sp ln v k c be le i Jc Lc).1.toInt ∧ ¬ Jr0 (p 4) 2 ≤ (x6_9 p q sp ln v k c be le i Jc Lc).1 ∧ ¬ x194 p (x6_9 p q sp ln v k c be le i Jc Lc).1 (Jr0 (p 4) (172 + 5 * v.toNatClampNeg + 0)) k Jr0 = 0)) := by
  have n4 : p 4 ≠ p 0 := X.hp 4 0 (by omega) (by omega) (by omega)
  intro c
  induction c with
  | zero =>
    intro be le i Jc Jr Lc Lr h0 hb hc hr
    exact ⟨rfl, hb⟩
  | succ c ih =>
    intro be le i Jc Jr Lc Lr h0 hb hc hr
    have e4 : Jr (p 4) = Jr0 (p 4) := hr _ n4
    have hRc : zR q Jc (Jr (p 4)) := by
      rw [e4]
      exact zR_ag hR (fun i hi => hc _ (X.hx i 25 hi (by omega)))
    have hWr : zW (Jr (p 4)) b := by rw [e4]; exact hW
    have hQr : zRQ p sp ln T Jc Jr := zRQ_ag hQ (hc _ hQ.sp25) (hr _ (X.hp 1 0 (by omega) (by omega) (by omega))) (hr _ (X.hp 2 0 (by omega) (by omega) (by omega))) (hr _ (X.hp 3 0 (by omega) (by omega) (by omega)))
    rw [x6_9, x193_9, zR_n hRc (by omega)]
    by_cases h1 : Jr (p 4) 2 ≤ i
    · rw [if_pos h1, if_pos h1]
      exact ⟨rfl, hb⟩
    · rw [if_neg h1, if_neg h1]
      have d0 : Jc (q 6) v.toNatClampNeg = Jr0 (p 4) (172 + 5 * v.toNatClampNeg + 0) := by
        rw [(zV hRc hWr.w v0 (by rw [e4]; exact v1)).2.2.1, e4]
      have z7 := zq_7 (s := Jr0 (p 4) (172 + 5 * v.toNatClampNeg + 0)) (k := k) hRc hWr h0 h1
      have wd := zwords (Lc := Lc) (Lr := Lr) hRc hWr h0 h1 v0 (by rw [e4]; exact v1)
      rw [d0] at wd
      have tt := zT X.hp hQr ht wd
      have fc : ∀ a, a ≠ p 25 → (x41 p sp ln Jc (x8 p q i v Jc Lc)).2.1 a = Jc0 a := fun a ha => (x41_frJ ha).trans (hc a ha)
      have fr : ∀ a, a ≠ p 0 → (x197 p t Jr (x196 p i (Jr0 (p 4) (172 + 5 * v.toNatClampNeg + 0)) v Jr Lr)).2.1 a = Jr0 a := fun a ha => (x197_frJ ha).trans (hr a ha)
      have x0 : x194 p i (Jr0 (p 4) (172 + 5 * v.toNatClampNeg + 0)) k Jr = x194 p i (Jr0 (p 4) (172 + 5 * v.toNatClampNeg + 0)) k Jr0 := by
        have x173e : ∀ a c, x173 p a c Jr = x173 p a c Jr0 := fun a c => by unfold x173; rw [e4]
        have x169e : ∀ a c, x169 p a c Jr = x169 p a c Jr0 := fun a c => by unfold x169; rw [e4]
        have x180e : ∀ a c, x180 p a c Jr = x180 p a c Jr0 := fun a c => by unfold x180; rw [e4]
        have l195 : ∀ (c : Nat) (s i : Int32), x195_2 p s Jr c i = x195_2 p s Jr0 c i := by
          intro c
          induction c with
          | zero => intro s i; rfl
          | succ c ih =>
            intro s i
            rw [x195_2, x195_2, ih, x180e, x180e, e4]
        have x195e : ∀ a, x195 p a Jr = x195 p a Jr0 := fun a => by unfold x195; rw [l195, e4]
        have x182e : ∀ a, x182 p a Jr = x182 p a Jr0 := fun a => by unfold x182; rw [x169e]
        have x183e : ∀ a, x183 p a Jr = x183 p a Jr0 := fun a => by
          unfold x183 x172
          rw [x173e, x173e, x173e, x182e]
        unfold x194
        rw [x183e, x173e, x173e, x195e]
      have nx := zi_i h1 h0
      rw [d0]
      by_cases h2 : Jc (q 3) i.toNatClampNeg = k
      · rw [if_pos h2] at z7 ⊢
        rw [z7]
        by_cases h3 : x194 p i (Jr0 (p 4) (172 + 5 * v.toNatClampNeg + 0)) k Jr = 0
        · rw [if_pos h3, if_pos h3]
          exact ih _ _ _ _ _ _ _ nx hb hc hr
        · rw [if_neg h3, if_neg h3]
          have bi : (i = Int32.ofInt (-1) ∨ (0 ≤ i.toInt ∧ ¬ Jr0 (p 4) 2 ≤ i ∧ ¬ x194 p i (Jr0 (p 4) (172 + 5 * v.toNatClampNeg + 0)) k Jr0 = 0)) := Or.inr ⟨h0, by rw [← e4]; exact h1, by rw [← x0]; exact h3⟩
          rcases tt with ⟨ta, tb⟩ | ⟨ta, tb, tc⟩
          · rw [if_pos (show (x41 p sp ln Jc (x8 p q i v Jc Lc)).1 = 0 from ta), if_neg (show ¬ 0 ≤ (x197 p t Jr (x196 p i (Jr0 (p 4) (172 + 5 * v.toNatClampNeg + 0)) v Jr Lr)).1 from by rw [tb]; decide)]
            exact ih _ _ _ _ _ _ _ nx hb fc fr
          · have fr2 : ∀ x y a, a ≠ p 0 → (x198 p t x y (x197 p t Jr (x196 p i (Jr0 (p 4) (172 + 5 * v.toNatClampNeg + 0)) v Jr Lr)).2.1 (x197 p t Jr (x196 p i (Jr0 (p 4) (172 + 5 * v.toNatClampNeg + 0)) v Jr Lr)).2.2).2.1 a = Jr0 a := fun x y a ha => (x198_frJ ha).trans (fr a ha)
            rw [if_neg (show ¬ (x41 p sp ln Jc (x8 p q i v Jc Lc)).1 = 0 from by rw [ta]; decide), if_pos (show 0 ≤ (x197 p t Jr (x196 p i (Jr0 (p 4) (172 + 5 * v.toNatClampNeg + 0)) v Jr Lr)).1 from z_ge.mpr tb)]
            rw [show x45 p (x41 p sp ln Jc (x8 p q i v Jc Lc)).2.1 (x41 p sp ln Jc (x8 p q i v Jc Lc)).2.2 = _ from tc]
            rcases hb with e | ⟨b1, b2, b3⟩
            · rw [if_pos e, if_pos (show be < 0 from by rw [e]; decide)]
              exact ih _ _ _ _ _ _ _ nx bi fc (fr2 _ _)
            · have ne : ¬ be = Int32.ofInt (-1) := fun e => by
                rw [e, xi_m1] at b1
                omega
              rw [if_neg ne, if_neg (show ¬ be < 0 from fun c => by have := z_le0.mp c; omega)]
              generalize (x198 p t (Jr (p 2) ((x197 p t Jr (x196 p i (Jr0 (p 4) (172 + 5 * v.toNatClampNeg + 0)) v Jr Lr)).1.toNatClampNeg)) (Jr (p 2) (((x197 p t Jr (x196 p i (Jr0 (p 4) (172 + 5 * v.toNatClampNeg + 0)) v Jr Lr)).1 + Int32.ofInt 1).toNatClampNeg)) (x197 p t Jr (x196 p i (Jr0 (p 4) (172 + 5 * v.toNatClampNeg + 0)) v Jr Lr)).2.1 (x197 p t Jr (x196 p i (Jr0 (p 4) (172 + 5 * v.toNatClampNeg + 0)) v Jr Lr)).2.2).1 = sm
              by_cases h5 : lg_cmp sm le < 0
              · rw [if_pos h5, if_neg (show ¬ 0 ≤ lg_cmp sm le from fun c => by
                  have c := z_ge.mp c
                  have h5 := z_le0.mp h5
                  rw [show (0 : Int32).toInt = 0 from by decide] at c
                  omega)]
                exact ih _ _ _ _ _ _ _ nx bi fc (fr2 _ _)
              · rw [if_neg h5, if_pos (show 0 ≤ lg_cmp sm le from z_ge.mpr (by
                  have h5 : ¬ (lg_cmp sm le).toInt < 0 := fun c => h5 (z_le0.mpr c)
                  rw [show (0 : Int32).toInt = 0 from by decide]
                  omega))]
                exact ih _ _ _ _ _ _ _ nx (Or.inr ⟨b1, b2, b3⟩) fc (fr2 _ _)
      · rw [if_neg h2] at z7 ⊢
        rw [if_pos (show x194 p i (Jr0 (p 4) (172 + 5 * v.toNatClampNeg + 0)) k Jr = 0 from z7.symm)]
        exact ih _ _ _ _ _ _ _ nx hb hc hr
theorem zch {p q : Nat → Nat} {sp ln T : Nat} {t v k : Int32} {b : Int} {Jc Jr : Nat → Nat → Int32} {Lc Lr : Nat → Nat → Int64} (X : zX p q) (hR : zR q Jc (Jr (p 4))) (hW : zW (Jr (p 4)) b) (hQ : zRQ p sp ln T Jc Jr) (ht : t.toInt = (T : Nat)) (v0 : 0 ≤ v.toInt) (v1 : ¬ Jr (p 4) 3 ≤ v) :
    (x6 p q sp ln v k Jc Lc).1 = (x193 p t (Jr (p 4) (172 + 5 * v.toNatClampNeg + 0)) k v Jr Lr).1 ∧ ((x6 p q sp ln v k Jc Lc).1 = Int32.ofInt (-1) ∨ (0 ≤ (x6 p q sp ln v k Jc Lc).1.toInt ∧ ¬ Jr (p 4) 2 ≤ (x6 p q sp ln v k Jc Lc).1 ∧ ¬ x194 p (x6 p q sp ln v k Jc Lc).1 (Jr (p 4) (172 + 5 * v.toNatClampNeg + 0)) k Jr = 0)) := by
  unfold x6 x193
  rw [zR_n hR (by omega)]
  exact zch_l X hR hW hQ ht v0 v1 _ _ _ _ _ _ _ _ (by decide) (Or.inl rfl) (fun _ _ => rfl) (fun _ _ => rfl)
