/-! the state of both sides: where it lies -/
theorem zz_ref {pl : Nat → Nat} {v : Nat → Int} {M : nt_M} (hB : ly_B pl v M) {g j k : Nat} (h : ly_R.any (fun q => Nat.beq q.1.1 g && (sx_leq q.1.2 ((j : Int), []) && Nat.beq q.2 (k + 1))) = true) : nt_R M (pl g) j = some (pl k) := by
  obtain ⟨q, hq, e⟩ := List.any_eq_true.mp h
  rw [Bool.and_eq_true, Bool.and_eq_true] at e
  obtain ⟨e1, e2, e3⟩ := e
  have e4 : q = ((g, ((j : Int), [])), k + 1) := Prod.ext (Prod.ext (Nat.eq_of_beq_eq_true e1) (sx_leq_ok e2)) (Nat.eq_of_beq_eq_true e3)
  rw [e4] at hq
  exact ly_ref hB hq
theorem zz_lt {pl : Nat → Nat} {v : Nat → Int} {M : nt_M} (hB : ly_B pl v M) {g : Nat} (hg : g < 66) : pl g < nt_n M := by
  have hq : ly_E.2.1[g]? = some (ly_E.2.1[g]'hg) := List.getElem?_eq_getElem hg
  exact (hB.2.1.2 g _ hq).1
theorem zz_sp {pl : Nat → Nat} {v : Nat → Int} {M : nt_M} (hB : ly_B pl v M) {g : Nat} (hg : g < 66) : pl g ≠ nt_sp := by
  have a := zz_lt hB hg
  have b : nt_n M ≤ nt_sp := hB.2.1.1
  omega
theorem zz_ne {pl : Nat → Nat} {v : Nat → Int} {M : nt_M} (hB : ly_B pl v M) (g h : Nat) (hg : g < 66) (hh : h < 66) (e : g ≠ h) : pl g ≠ pl h := fun c => e (hB.1 g h hg hh c)
theorem zz_P {pl : Nat → Nat} {v : Nat → Int} {M : nt_M} (hB : ly_B pl v M) : xs_P M pl := by
  refine ⟨fun t ht => ?_, zz_ne hB, fun i hi => zz_sp hB hi, ?_⟩
  · exact zz_ref hB (List.all_eq_true.mp (show xs_U.all (fun t => ly_R.any (fun q => Nat.beq q.1.1 t.1 && (sx_leq q.1.2 ((t.2.1 : Int), []) && Nat.beq q.2 (t.2.2 + 1)))) = true from by decide +kernel) t ht)
  · have := (hB.2.1.2 27 _ (show ly_E.2.1[27]? = some (14, 60, 60, 0) from rfl)).2.2.1
    dsimp only at this
    omega
theorem zz_Qn {pl : Nat → Nat} {v : Nat → Int} {M : nt_M} (hB : ly_B pl v M) : xs_Q M (fun i => pl (31 + i)) := by
  refine ⟨fun t ht => ?_, fun i j hi hj e => zz_ne hB _ _ (by omega) (by omega) (by omega), fun i hi => zz_sp hB (by omega), (hB.2.1.2 46 _ (show ly_E.2.1[46]? = some (15, 24, 24, 0) from rfl)).2.1⟩
  exact zz_ref hB (List.all_eq_true.mp (show xs_T.all (fun t => ly_R.any (fun q => Nat.beq q.1.1 (31 + t.1) && (sx_leq q.1.2 ((t.2.1 : Int), []) && Nat.beq q.2 (31 + t.2.2 + 1)))) = true from by decide +kernel) t ht)
theorem zz_Qm {pl : Nat → Nat} {v : Nat → Int} {M : nt_M} (hB : ly_B pl v M) : xs_Q M (fun i => pl (48 + i)) := by
  refine ⟨fun t ht => ?_, fun i j hi hj e => zz_ne hB _ _ (by omega) (by omega) (by omega), fun i hi => zz_sp hB (by omega), (hB.2.1.2 63 _ (show ly_E.2.1[63]? = some (15, 24, 24, 0) from rfl)).2.1⟩
  exact zz_ref hB (List.all_eq_true.mp (show xs_T.all (fun t => ly_R.any (fun q => Nat.beq q.1.1 (48 + t.1) && (sx_leq q.1.2 ((t.2.1 : Int), []) && Nat.beq q.2 (48 + t.2.2 + 1)))) = true from by decide +kernel) t ht)
def zz_lc (b : Nat) (D : sx_D) (t : Nat × Nat) : Bool := match D[b + t.1]? with
  | some q => decide ((t.2 : Int) ≤ q.2.1) && decide (q.2.2.1 ≤ (t.2 : Int))
  | none => false
theorem zz_N {pl : Nat → Nat} {v : Nat → Int} {M : nt_M} (hB : ly_B pl v M) {b : Nat} (h : xs_NL.all (zz_lc b ly_E.2.1) = true) : xs_N M (fun i => pl (b + i)) := by
  intro t ht
  have l := List.all_eq_true.mp h t ht
  unfold zz_lc at l
  cases hq : ly_E.2.1[b + t.1]? with
  | none => rw [hq] at l; cases l
  | some q =>
    rw [hq] at l
    dsimp only at l
    rw [Bool.and_eq_true, decide_eq_true_eq, decide_eq_true_eq] at l
    have := (hB.2.1.2 _ q hq).2.2.1
    dsimp only
    omega
theorem zz_Nn {pl : Nat → Nat} {v : Nat → Int} {M : nt_M} (hB : ly_B pl v M) : xs_N M (fun i => pl (31 + i)) := zz_N hB (by decide +kernel)
theorem zz_Nm {pl : Nat → Nat} {v : Nat → Int} {M : nt_M} (hB : ly_B pl v M) : xs_N M (fun i => pl (48 + i)) := zz_N hB (by decide +kernel)
/-- an image's block -/
theorem zz_Qi {a : Nat} {x : Int} {M : nt_M} (hs : nt_n M ≤ nt_sp) (h : ly_im a x M) : xs_Q M (fun i => a + i) := by
  have k15 := (h.1 15 _ (show ly_ED[15]? = some (15, 24, 24, 0) from rfl))
  have k16 := (h.1 16 _ (show ly_ED[16]? = some (13, 8, 8, 0) from rfl)).1
  refine ⟨fun t ht => ?_, fun i j hi hj e => by dsimp only; omega, fun i hi => by dsimp only; omega, k15.2.1⟩
  have l := List.all_eq_true.mp (show xs_T.all (fun t => ly_RI.any (fun q => Nat.beq (q.1.1 - 66) t.1 && (Nat.beq q.1.2.1.toNat t.2.1 && Nat.beq (q.2 - 67) t.2.2))) = true from by decide +kernel) t ht
  obtain ⟨q, hq, e⟩ := List.any_eq_true.mp l
  rw [Bool.and_eq_true, Bool.and_eq_true] at e
  have z := h.2.1 q hq
  rw [Nat.eq_of_beq_eq_true e.1, Nat.eq_of_beq_eq_true e.2.1, Nat.eq_of_beq_eq_true e.2.2] at z
  exact z
theorem zz_Ni {a : Nat} {x : Int} {M : nt_M} (h : ly_im a x M) : xs_N M (fun i => a + i) := by
  intro t ht
  have l := List.all_eq_true.mp (show xs_NL.all (zz_lc 0 ly_ED) = true from by decide +kernel) t ht
  unfold zz_lc at l
  rw [Nat.zero_add] at l
  cases hq : ly_ED[t.1]? with
  | none => rw [hq] at l; cases l
  | some q =>
    rw [hq] at l
    dsimp only at l
    rw [Bool.and_eq_true, decide_eq_true_eq, decide_eq_true_eq] at l
    have := (h.1 _ q hq).2.2.1
    dsimp only
    omega
theorem zz_W {pl : Nat → Nat} {v : Nat → Int} {M : nt_M} (hB : ly_B pl v M) : xr_W (nt_I M (pl 4)) := by
  intro j
  have g := (hB.2.1.2 4 _ (show ly_E.2.1[4]? = some (13, 212, 212, 10) from rfl)).2.2.2.2 j
  have g : (sx_iv (sx_tbs.getD 10 []) j).1 ≤ (nt_I M (pl 4) j).toInt ∧ (nt_I M (pl 4) j).toInt ≤ (sx_iv (sx_tbs.getD 10 []) j).2 := g
  by_cases hj : j < 212
  · have l := List.all_eq_true.mp (show (List.range 212).all (fun j => decide ((xr_b j).1 ≤ (sx_iv (sx_tbs.getD 10 []) j).1) && decide ((sx_iv (sx_tbs.getD 10 []) j).2 ≤ (xr_b j).2)) = true from by decide +kernel) j (List.mem_range.mpr hj)
    rw [Bool.and_eq_true, decide_eq_true_eq, decide_eq_true_eq] at l
    omega
  · refine xr_any ?_
    unfold xr_b
    rw [if_neg (by omega), if_neg (by omega), if_neg (by omega), if_neg (by omega), if_neg (by omega), if_neg (by omega), if_neg (by omega), if_neg (by omega)]
theorem zz_X {pl : Nat → Nat} {v : Nat → Int} {M : nt_M} (hB : ly_B pl v M) : zX pl (fun i => pl (31 + i)) := ⟨zz_ne hB, fun i j hi hj e => zz_ne hB _ _ (by omega) (by omega) (by omega), fun i j hi hj => zz_ne hB _ _ (by omega) (by omega) (by omega)⟩
theorem zz_Xm {pl : Nat → Nat} {v : Nat → Int} {M : nt_M} (hB : ly_B pl v M) : zX pl (fun i => pl (48 + i)) := ⟨zz_ne hB, fun i j hi hj e => zz_ne hB _ _ (by omega) (by omega) (by omega), fun i j hi hj => zz_ne hB _ _ (by omega) (by omega) (by omega)⟩
/-! what is the same -/
def zim (J : Nat → Nat → Int32) (P k : Nat) : Nat → Int32 := fun j => if j < 212 then J P (212 * k + j) else 0
def zz_R (q : Nat → Nat) (J : Nat → Nat → Int32) (e : Nat → Int32) : Prop := zR q J e ∧ zW e (e 4).toInt ∧ (e 4).toInt ≤ 200 ∧ (e 0 = 0 → e 5 = e 6)
def zz_I (pl : Nat → Nat) (M : nt_M) : Prop := (∀ k, k < 4 → ∀ a, nt_R M (pl 65) k = some a → (66 ≤ a ∧ a + 17 ≤ nt_n M) ∧ zz_R (fun i => a + i) (nt_I M) (zim (nt_I M) (pl 14) k)) ∧ (∀ u b, u < 6 → nt_R M (pl 23) u = some b → (66 ≤ b ∧ b + 2 ≤ nt_n M ∧ (u : Int) < (nt_I M (pl 16) 4).toInt) ∧ zRQ pl (b + 1) (nt_l M (b + 1)) u (nt_I M) (nt_I M))
def zz_E (pl : Nat → Nat) (M : nt_M) : Prop := zz_R (fun i => pl (31 + i)) (nt_I M) (nt_I M (pl 4)) ∧ zz_I pl M
theorem zR_aj {q : Nat → Nat} {J J' : Nat → Nat → Int32} {e : Nat → Int32} (h : ∀ i, i < 17 → J' (q i) = J (q i)) (hR : zR q J e) : zR q J' e := by
  refine ⟨fun j hj => ?_, ?_⟩
  · rw [h _ (zc_17 j (zv_lt hj))]
    exact hR.1 j hj
  · rw [h 0 (by omega)]
    exact hR.2
theorem zv_ae {e f : Nat → Int32} (h : ∀ j, j < 212 → f j = e j) {j : Nat} (hj : zv f j) : zv e j := by
  unfold zv zn at hj ⊢
  rw [h 0 (by omega), h 1 (by omega), h 2 (by omega), h 3 (by omega)] at hj
  exact hj
theorem zR_ae {q : Nat → Nat} {J : Nat → Nat → Int32} {e f : Nat → Int32} (h : ∀ j, j < 212 → f j = e j) (hR : zR q J e) : zR q J f := by
  refine ⟨fun j hj => ?_, ?_⟩
  · rw [h j (zv_lt hj)]
    exact hR.1 j (zv_ae h hj)
  · rw [h 0 (by omega)]
    exact hR.2
theorem xr_ae {e f : Nat → Int32} (h : ∀ j, j < 212 → f j = e j) (hW : xr_W e) : xr_W f := by
  intro j
  by_cases hj : j < 212
  · rw [h j hj]
    exact hW j
  · refine xr_any ?_
    unfold xr_b
    rw [if_neg (by omega), if_neg (by omega), if_neg (by omega), if_neg (by omega), if_neg (by omega), if_neg (by omega), if_neg (by omega), if_neg (by omega)]
theorem zW_ae {e f : Nat → Int32} {g : Int} (h : ∀ j, j < 212 → f j = e j) (hW : zW e g) : zW f g := ⟨xr_ae h hW.w, zA_ag hW.a hW.w (fun i hi _ => h i (by omega)) (fun s hs k hk => h _ (by omega)) (fun p hp => ⟨h _ (by omega), h _ (by omega)⟩) (fun v hv k hk => h _ (by omega)), zB_ag hW.b hW.w (h 1 (by omega)) (h 2 (by omega)) (fun s hs => h _ (by omega)) (fun p hp => ⟨h _ (by omega), h _ (by omega)⟩), zC_ag hW.c hW.w (h 1 (by omega)) (h 3 (by omega)) (fun s hs => ⟨h _ (by omega), h _ (by omega)⟩) (fun v hv => ⟨h _ (by omega), h _ (by omega), h _ (by omega)⟩), zD_ag hW.d hW.w (h 2 (by omega)) (h 4 (by omega)) (h 5 (by omega)) (h 6 (by omega)) (fun p hp => h _ (by omega))⟩
theorem zz_Rae {q : Nat → Nat} {J : Nat → Nat → Int32} {e f : Nat → Int32} (h : ∀ j, j < 212 → f j = e j) (hR : zz_R q J e) : zz_R q J f := by
  obtain ⟨a, b, c, d⟩ := hR
  refine ⟨zR_ae h a, ?_, ?_, ?_⟩
  · rw [h 4 (by omega)]
    exact zW_ae h b
  · rw [h 4 (by omega)]
    exact c
  · rw [h 0 (by omega), h 5 (by omega), h 6 (by omega)]
    exact d
theorem zz_Rag {q : Nat → Nat} {J J' : Nat → Nat → Int32} {e : Nat → Int32} (h : ∀ i, i < 17 → J' (q i) = J (q i)) (hR : zz_R q J e) : zz_R q J' e := ⟨zR_aj h hR.1, hR.2⟩
/-- images and rules stay, where nothing of them is written -/
theorem zz_Ik {pl : Nat → Nat} {M M' : nt_M} (hn : nt_n M' = nt_n M) (hl : nt_l M' = nt_l M) (h65 : ∀ k, nt_R M' (pl 65) k = nt_R M (pl 65) k) (h23 : ∀ k, nt_R M' (pl 23) k = nt_R M (pl 23) k) (hg : ∀ g, g = 14 ∨ g = 1 ∨ g = 2 ∨ g = 3 ∨ g = 16 → nt_I M' (pl g) = nt_I M (pl g)) (ho : ∀ a, 66 ≤ a → nt_I M' a = nt_I M a) (h : zz_I pl M) : zz_I pl M' := by
  refine ⟨fun k hk a ha => ?_, fun u b hu hb => ?_⟩
  · rw [h65] at ha
    obtain ⟨h1, h2⟩ := h.1 k hk a ha
    rw [hn]
    refine ⟨h1, zz_Rag (fun i hi => ho _ (by omega)) ?_⟩
    unfold zim
    rw [hg 14 (Or.inl rfl)]
    exact h2
  · rw [h23] at hb
    obtain ⟨h1, h2⟩ := h.2 u b hu hb
    rw [hn, hg 16 (Or.inr (Or.inr (Or.inr (Or.inr rfl))))]
    refine ⟨h1, ?_⟩
    rw [hl]
    exact zRQ_ag h2 (ho _ (by omega)) (hg 1 (Or.inr (Or.inl rfl))) (hg 2 (Or.inr (Or.inr (Or.inl rfl)))) (hg 3 (Or.inr (Or.inr (Or.inr (Or.inl rfl)))))
theorem zz_out {pl : Nat → Nat} {mk xi : Nat → Int} {rc : Int} {M : nt_M} (hS : ly_S pl mk xi rc M) {a : Nat} (ha : 66 ≤ a) : ∀ g, g < 66 → a ≠ pl g := fun g hg e => by
  have := hS.1.1 g hg
  omega
theorem zz_Ifr {pl : Nat → Nat} {mk xi : Nat → Int} {rc : Int} {M M' : nt_M} (hS : ly_S pl mk xi rc M) (hf : ly_fr 66 pl M M') (hg : ∀ g, g = 14 ∨ g = 1 ∨ g = 2 ∨ g = 3 ∨ g = 16 → nt_I M' (pl g) = nt_I M (pl g)) (h : zz_I pl M) : zz_I pl M' := zz_Ik hf.1.1 hf.1.2.2.2 (fun k => hf.2.2 65 k (Or.inr rfl)) (fun k => hf.2.2 23 k (Or.inl rfl)) hg (fun a ha => funext (hf.2.1 a (zz_out hS ha)).1) h
/-- regions that a call leaves as they are -/
def zz_T (ok : Nat → Bool) (pl : Nat → Nat) (M M' : nt_M) : Prop := ∀ g, g < 66 → ok g = true → nt_I M' (pl g) = nt_I M (pl g)
def zz_ok (g : Nat) : Bool := (Nat.ble 31 g && Nat.blt g 48) || (Nat.beq g 4 || (Nat.beq g 14 || (Nat.beq g 1 || (Nat.beq g 2 || (Nat.beq g 3 || Nat.beq g 16)))))
theorem zz_keep {pl : Nat → Nat} {mk xi : Nat → Int} {rc : Int} {M M' : nt_M} (hS : ly_S pl mk xi rc M) (hf : ly_fr 66 pl M M') (hT : zz_T zz_ok pl M M') (h : zz_E pl M) : zz_E pl M' := by
  refine ⟨?_, zz_Ifr hS hf (fun g hg => hT g (by omega) (by rcases hg with rfl | rfl | rfl | rfl | rfl <;> rfl)) h.2⟩
  rw [hT 4 (by omega) rfl]
  refine zz_Rag (fun i hi => hT _ (by omega) ?_) h.1
  rcases (by omega : i = 0 ∨ i = 1 ∨ i = 2 ∨ i = 3 ∨ i = 4 ∨ i = 5 ∨ i = 6 ∨ i = 7 ∨ i = 8 ∨ i = 9 ∨ i = 10 ∨ i = 11 ∨ i = 12 ∨ i = 13 ∨ i = 14 ∨ i = 15 ∨ i = 16) with rfl | rfl | rfl | rfl | rfl | rfl | rfl | rfl | rfl | rfl | rfl | rfl | rfl | rfl | rfl | rfl | rfl <;> rfl
theorem zz_Tm {K : sx_K} {ok : Nat → Bool} {pl : Nat → Nat} {M M' : nt_M} (hn : 66 ≤ K.2.2.1.length) (hij : sx_ij (sx_KE (sx_tbs, sx_gps) K) pl) (hmo : K.2.2.2.1.1.all (fun q => !ok q.1) = true) (h : sx_fm (sx_KE (sx_tbs, sx_gps) K) pl M M') : zz_T ok pl M M' := by
  intro g hg hc
  funext j
  refine h.2.1 _ j fun q hq hl hz => ?_
  have e := hij g q.1 (by show g < K.2.2.1.length; omega) hl hz.1
  have l := List.all_eq_true.mp hmo q hq
  rw [← e, hc] at l
  cases l
theorem zz_gen {X : nt_X} {K : sx_K} {ok : Nat → Bool} {pl : Nat → Nat} {v r : Nat → Int} {M : nt_M} {d g dl n : Nat} {mo : List (Nat × Int × Int)} {rm : List (Nat × Nat)} {args : List sx_V} {ec : sx_I} {bd : sx_B} {cs : List sx_L} {ps : List (Option sx_V × sx_N)} {vs : List Value} {o : Option Value × nt_M} (hK : sx_KOK X (sx_tbs, sx_gps) K) (hKe : K = (g, dl, ly_D ++ [], (mo, rm), args, (ly_C ++ ec, ly_R ++ [], (bd, cs), n), ps)) (hmo : mo.all (fun q => !ok q.1) = true) (hd : dl ≤ d) (hB : ly_B pl v M) (hr : ∀ s, s < 11 → r s = v s) (hargs : sx_os pl r args vs) (hec : sx_oi (sx_KE (sx_tbs, sx_gps) K) (pl, M, r, nt_ghost) r ec M) (hob : sx_ob r bd) (hoc : sx_oc r cs) (k : nt_ev X d g vs M o) : zz_T ok pl M o.2 := by
  have hij : sx_ij (sx_KE (sx_tbs, sx_gps) K) pl := by
    intro a b ha hb e
    rw [hKe] at ha hb
    have ha : a < (ly_D ++ []).length := ha
    have hb : b < (ly_D ++ []).length := hb
    rw [List.append_nil] at ha hb
    exact hB.1 a b ha hb e
  have hon := ly_app hKe hB (fun _ _ => rfl) hr hij (fun h q hq => by rw [List.getElem?_nil] at hq; cases hq) hec (fun q hq => by cases hq) hob hoc
  subst hKe
  obtain ⟨o', h1, p, hp, r', h2, h3⟩ := hK (pl, M, r, nt_ghost) r vs M d hd rfl rfl rfl hargs hon
  have e : o = o' := lz_det k h1
  subst e
  exact zz_Tm (Nat.le_of_eq rfl) hij hmo h3.2.2.2.2.2.2
