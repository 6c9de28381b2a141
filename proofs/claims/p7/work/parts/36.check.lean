/-! a method keeps its contract, if the check says so -/
def sx_id0 (n : Nat) : List (Nat × sx_L) := (List.range n).map (fun i => (i, (0, [(i, 1)])))
def sx_bls (ls : List (Nat × sx_V)) : List (Nat × sx_V) → sx_Z → sx_Z
  | [], zs => zs
  | q :: t, zs => match sx_lk ls q.1 with
    | some a => sx_bls ls t (sx_bV zs q.2 a)
    | none => sx_bls ls t zs
def sx_idg (n : Nat) : List (Nat × Nat) := (List.range n).map (fun i => (i, i))
/-- unknowns that are fixed stay themselves -/
def sx_vr (n : Nat) (zf : Nat → sx_L) : Bool := (List.range n).all (fun i => sx_leq (zf i) (0, [(i, 1)]))
/-- a state is one of a loop's -/
def sx_hm (E : sx_E) (n0 : Nat) (ro : Option sx_L) (A : sx_A) (H : sx_A × sx_L) : Bool := Nat.beq H.1.1 A.1 && (match sx_rds E A.2.1 A.2.2.1 H.1.2.2.2.1 (sx_bVs H.1.2.2.1 A.2.2.1 (sx_bls A.2.1 H.1.2.1 (sx_idg E.2.1.length, sx_id0 n0))) A.2.2.2 with
  | some o => H.1.2.1.all (fun q => match sx_lk A.2.1 q.1 with | some a => sx_vV o.2 (fun g => g) (sx_zf o.1.2) q.2 a | none => false) && (sx_vVs o.2 (fun g => g) (sx_zf o.1.2) H.1.2.2.1 A.2.2.1 && (sx_vN E E.2.1.length o.2 (fun g => g) (sx_zf o.1.2) H.1.2.2.2 && (sx_vr n0 (sx_zf o.1.2) && (match ro with | some R => sx_p o.2 (sx_sub (sx_add (-1, []) R) (sx_sb (sx_zf o.1.2) H.2)) | none => true))))
  | none => false)
theorem sx_vr_ok {n : Nat} {zf : Nat → sx_L} (h : sx_vr n zf = true) {r : Nat → Int} {s : Nat} (hs : s < n) : sx_rf r zf s = r s := by
  unfold sx_rf
  rw [sx_leq_ok (List.all_eq_true.mp h s (List.mem_range.mpr hs)), sx_s_e]
theorem sx_hm_ok {E : sx_E} {F : sx_F} {r r0 : Nat → Int} {n0 n1 : Nat} {ro : Option sx_L} {A : sx_A} {H : sx_A × sx_L} {c : nt_C} (h : sx_hm (E.1, E.2.1, E.2.2.1, E.2.2.2.1, n1) n0 ro A H = true) (h0 : n0 ≤ n1) (hE : E.2.2.2.2 = n0) (hF : ∀ s, s < n0 → r0 s = F.2.2.1 s) (hok : sx_ok (E.1, E.2.1, E.2.2.1, E.2.2.2.1, n1) (F.1, F.2.1, r0, F.2.2.2) r A c) : ∃ rh r1, sx_ok E F rh H.1 c ∧ (∀ s, s < n1 → r1 s = r0 s) ∧ ∀ R, ro = some R → sx_e rh H.2 ≤ sx_e r1 R - 1 := by
  unfold sx_hm at h
  rw [Bool.and_eq_true] at h
  obtain ⟨hpc, h⟩ := h
  have hpc := Nat.eq_of_beq_eq_true hpc
  split at h
  · rename_i o ho
    rw [Bool.and_eq_true, Bool.and_eq_true, Bool.and_eq_true, Bool.and_eq_true] at h
    obtain ⟨v1, v2, v3, v4, v5⟩ := h
    obtain ⟨o1, o2, o3, o4⟩ := hok
    obtain ⟨r1, k1, k2, k3⟩ := sx_rds_ok _ _ _ _ ho o2 o3 o4
    obtain ⟨w1, w2, w3, w4⟩ := sx_vN_ok (EK := (E.1, E.2.1, E.2.2.1, E.2.2.2.1, n1)) F.2.1 F.2.2.1 k3 v3
    refine ⟨sx_rf r1 (sx_zf o.1.2), r1, ⟨hpc.trans o1, fun q hq => ?_, sx_vVs_ok k3 v2 k2, k3.1, k3.2.1, w1, w2, ⟨w3, w4⟩, fun s hs => ?_, k3.2.2.2.2.2.2⟩, k3.2.2.2.2.2.1, fun R hR => ?_⟩
    · have l := List.all_eq_true.mp v1 q hq
      split at l
      · rename_i a ha
        obtain ⟨v, h5, h6⟩ := k1 _ (sx_lk_in ha)
        exact ⟨v, h5, sx_vV_ok (F := (F.1, F.2.1, r0, F.2.2.2)) k3 l h6⟩
      · cases l
    · rw [hE] at hs
      rw [sx_vr_ok v4 hs, k3.2.2.2.2.2.1 s (show s < n1 by omega)]
      exact hF s hs
    · rw [hR] at v5
      have := sx_p_ok k3 v5
      rw [sx_sub_e, sx_add_e, sx_c_e, sx_sb_e] at this
      omega
  · cases h
/-- what is handed back is as the contract has it -/
def sx_pm (E : sx_E) (n0 : Nat) (v : Option sx_V) (N : sx_N) (p : Option sx_V × sx_N) : Bool := match sx_rds E [] v.toList p.2.1 (sx_bVs p.1.toList v.toList (sx_idg E.2.1.length, sx_id0 n0)) N with
  | some o => sx_vVs o.2 (fun g => g) (sx_zf o.1.2) p.1.toList v.toList && (sx_vN E E.2.1.length o.2 (fun g => g) (sx_zf o.1.2) p.2 && sx_vr n0 (sx_zf o.1.2))
  | none => false
theorem sx_ov_l {pl : Nat → Nat} {r : Nat → Int} {v : Option sx_V} {w : Option Value} : sx_ov pl r v w ↔ sx_os pl r v.toList w.toList := by
  cases v with
  | none =>
    cases w with
    | none => exact Iff.rfl
    | some _ => exact Iff.rfl
  | some a =>
    cases w with
    | none => exact Iff.rfl
    | some x => exact ⟨fun h => ⟨h, trivial⟩, fun h => h.1⟩
theorem sx_pm_ok {E : sx_E} {F : sx_F} {r r0 : Nat → Int} {n0 n1 : Nat} {v : Option sx_V} {N : sx_N} {p : Option sx_V × sx_N} {out : Option Value × nt_M} (h : sx_pm (E.1, E.2.1, E.2.2.1, E.2.2.2.1, n1) n0 v N p = true) (h0 : n0 ≤ n1) (hE : E.2.2.2.2 = n0) (hF : ∀ s, s < n0 → r0 s = F.2.2.1 s) (hov : sx_ov F.1 r v out.1) (hon : sx_on (E.1, E.2.1, E.2.2.1, E.2.2.2.1, n1) (F.1, F.2.1, r0, F.2.2.2) r N out.2) : ∃ r', sx_ov F.1 r' p.1 out.1 ∧ sx_on E F r' p.2 out.2 := by
  unfold sx_pm at h
  split at h
  · rename_i o ho
    rw [Bool.and_eq_true, Bool.and_eq_true] at h
    obtain ⟨v2, v3, v4⟩ := h
    obtain ⟨r1, k1, k2, k3⟩ := sx_rds_ok (F := (F.1, F.2.1, r0, F.2.2.2)) (cl := []) _ _ _ r ho (fun _ h => (by cases h)) (sx_ov_l.mp hov) hon
    obtain ⟨w1, w2, w3, w4⟩ := sx_vN_ok (EK := (E.1, E.2.1, E.2.2.1, E.2.2.2.1, n1)) F.2.1 F.2.2.1 k3 v3
    refine ⟨sx_rf r1 (sx_zf o.1.2), sx_ov_l.mpr (sx_vVs_ok k3 v2 k2), k3.1, k3.2.1, w1, w2, ⟨w3, w4⟩, fun s hs => ?_, k3.2.2.2.2.2.2⟩
    rw [hE] at hs
    rw [sx_vr_ok v4 hs, k3.2.2.2.2.2.1 s (show s < n1 by omega)]
    exact hF s hs
  · cases h
/-- an end of a run is a loop's state or a contract's answer -/
def sx_end (E : sx_E) (n0 : Nat) (ro : Option sx_L) (hs : List (sx_A × sx_L)) (ps : List (Option sx_V × sx_N)) (z : sx_A ⊕ (Option sx_V × sx_N)) : Bool := match z with
  | .inl A => hs.any (fun H => sx_hm E n0 ro A H)
  | .inr o => ps.any (fun p => sx_pm E n0 o.1 o.2 p)
def sx_Kn (E : sx_E) (n : Nat) : sx_E := (E.1, E.2.1, E.2.2.1, E.2.2.2.1, n)
def sx_c0 (T : List sx_T × List (List Nat)) (Ks : List sx_K) (K : sx_K) (hs : List (sx_A × sx_L)) (f : Nat) : Bool := match sx_go Ks f (sx_KE T K) (hs.map fun H => H.1.1) true K.2.1 K.1 (0, sx_args 0 K.2.2.2.2.1, [], K.2.2.2.2.2.1) with
  | some G => G.all (sx_end (sx_KE T K) K.2.2.2.2.2.1.2.2.2 none hs K.2.2.2.2.2.2)
  | none => false
/-- what is asked of each loop's state -/
def sx_cr (K : sx_K) (H : sx_A × sx_L) : Bool := sx_p H.1.2.2.2 H.2 && (sx_lw H.1.2.2.2.2.2.2 H.2 && Nat.ble K.2.2.2.2.2.1.2.2.2 H.1.2.2.2.2.2.2)
def sx_c1 (T : List sx_T × List (List Nat)) (Ks : List sx_K) (K : sx_K) (hs : List (sx_A × sx_L)) (f : Nat) (H : sx_A × sx_L) : Bool := match sx_go Ks f (sx_Kn (sx_KE T K) H.1.2.2.2.2.2.2) (hs.map fun H => H.1.1) true K.2.1 K.1 H.1 with
  | some G => G.all (sx_end (sx_Kn (sx_KE T K) H.1.2.2.2.2.2.2) K.2.2.2.2.2.1.2.2.2 (some H.2) hs K.2.2.2.2.2.2)
  | none => false
/-- loops' states hs are run on from; those of hi are shown by hand to be such of others -/
def sx_chk2 (T : List sx_T × List (List Nat)) (Ks : List sx_K) (K : sx_K) (hs hi : List (sx_A × sx_L)) (f : Nat) : Bool := sx_c0 T Ks K (hs ++ hi) f && ((hs ++ hi).all (sx_cr K) && hs.all (sx_c1 T Ks K (hs ++ hi) f))
def sx_imp (T : List sx_T × List (List Nat)) (K : sx_K) (hs hi : List (sx_A × sx_L)) : Prop := ∀ (F : sx_F), F.2.2.2 = sx_GG T → ∀ H ∈ hi, ∀ (r : Nat → Int) (c : nt_C), sx_ok (sx_KE T K) F r H.1 c → ∃ H' ∈ hs ++ hi, ∃ r', sx_ok (sx_KE T K) F r' H'.1 c ∧ sx_e r' H'.2 + 1 ≤ sx_e r H.2
theorem sx_loops {X : nt_X} {T : List sx_T × List (List Nat)} {Ks : List sx_K} {K : sx_K} {hs hi : List (sx_A × sx_L)} {f d : Nat} {F : sx_F} (hG : F.2.2.2 = sx_GG T) (hK : ∀ K' ∈ Ks, sx_KOK X T K') (hr : (hs ++ hi).all (sx_cr K) = true) (h : hs.all (sx_c1 T Ks K (hs ++ hi) f) = true) (him : sx_imp T K hs hi) (hd : K.2.1 ≤ d) : ∀ (n : Nat) (H : sx_A × sx_L) (rh : Nat → Int) (c : nt_C), H ∈ hs ++ hi → sx_ok (sx_KE T K) F rh H.1 c → sx_e rh H.2 < (n : Int) → sx_W X d K.1 (fun o => ∃ p ∈ K.2.2.2.2.2.2, ∃ r', sx_ov F.1 r' p.1 o.1 ∧ sx_on (sx_KE T K) F r' p.2 o.2) c
  | 0, H, rh, c, hH, hok, hn => by
    have l := List.all_eq_true.mp hr H hH
    unfold sx_cr at l
    rw [Bool.and_eq_true] at l
    have := sx_p_ok hok.2.2.2 l.1
    omega
  | n + 1, H, rh, c, hH, hok, hn => by
    have lr := List.all_eq_true.mp hr H hH
    unfold sx_cr at lr
    rw [Bool.and_eq_true, Bool.and_eq_true] at lr
    obtain ⟨l1, l2, l3⟩ := lr
    have l3 : K.2.2.2.2.2.1.2.2.2 ≤ H.1.2.2.2.2.2.2 := Nat.le_of_ble_eq_true l3
    rcases List.mem_append.mp hH with hH1 | hH1
    · have l4 := List.all_eq_true.mp h H hH1
      unfold sx_c1 at l4
      split at l4
      · rename_i G hGo
        obtain ⟨y0, y1, y2, y3, y4, y5, y6⟩ := hok.2.2.2
        refine sx_go_ok X Ks f _ _ _ _ _ _ _ hGo (F.1, F.2.1, rh, F.2.2.2) rh c d _ hG hK hd ⟨hok.1, hok.2.1, hok.2.2.1, y0, y1, y2, y3, y4, fun _ _ => rfl, y6⟩ (fun A' hA' r' c' hok' => ?_) (fun o ho r' out hov hon => ?_)
        · have z := List.all_eq_true.mp l4 _ hA'
          obtain ⟨H', hH', z⟩ := List.any_eq_true.mp z
          obtain ⟨r2, r1, w1, w2, w3⟩ := sx_hm_ok (E := sx_KE T K) (F := F) (r0 := rh) z l3 rfl (fun s hs => y5 s hs) hok'
          have w3 := w3 _ rfl
          rw [sx_e_up w2 l2] at w3
          exact sx_loops hG hK hr h him hd n H' r2 c' hH' w1 (by omega)
        · have z := List.all_eq_true.mp l4 _ ho
          obtain ⟨p, hp, z⟩ := List.any_eq_true.mp z
          obtain ⟨r2, w1, w2⟩ := sx_pm_ok (E := sx_KE T K) (F := F) (r0 := rh) z l3 rfl (fun s hs => y5 s hs) hov hon
          exact ⟨p, hp, r2, w1, w2⟩
      · cases l4
    · obtain ⟨H', hH', r', w1, w2⟩ := him F hG H hH1 rh c hok
      exact sx_loops hG hK hr h him hd n H' r' c hH' w1 (by omega)
/-- THE CHECK: the method keeps its contract -/
theorem sx_keeps2 {X : nt_X} {T : List sx_T × List (List Nat)} {Ks : List sx_K} {K : sx_K} {hs hi : List (sx_A × sx_L)} {f : Nat} (hK : ∀ K' ∈ Ks, sx_KOK X T K') (him : sx_imp T K hs hi) (h : sx_chk2 T Ks K hs hi f = true) : sx_KOK X T K := by
  intro F r vs M d hd hM hr hG hargs hon
  unfold sx_chk2 at h
  rw [Bool.and_eq_true, Bool.and_eq_true] at h
  obtain ⟨h0, h1, h2⟩ := h
  unfold sx_c0 at h0
  split at h0
  · rename_i G hGo
    have hF : (F.1, F.2.1, r, F.2.2.2) = F := by rw [← hr]
    have key := sx_go_ok X Ks f _ _ _ _ _ _ _ hGo F r (0, lv_args 0 vs, [], M) d (fun o => ∃ p ∈ K.2.2.2.2.2.2, ∃ r', sx_ov F.1 r' p.1 o.1 ∧ sx_on (sx_KE T K) F r' p.2 o.2) hG hK hd ⟨rfl, sx_args_ok 0 hargs, trivial, hon⟩ (fun A' hA' r' c' hok' => ?_) (fun o ho r' out hov hon' => ?_)
    · obtain ⟨o, k1, k2⟩ := key
      exact ⟨o, k1, k2⟩
    · have z := List.all_eq_true.mp h0 _ hA'
      obtain ⟨H', hH', z⟩ := List.any_eq_true.mp z
      obtain ⟨r2, r1, w1, w2, w3⟩ := sx_hm_ok (E := sx_KE T K) (F := F) (r0 := r) (n1 := K.2.2.2.2.2.1.2.2.2) z (Nat.le_refl _) rfl (fun s _ => by rw [hr]) (by rw [hF]; exact hok')
      exact sx_loops hG hK h1 h2 him hd ((sx_e r2 H'.2).toNat + 1) H' r2 c' hH' w1 (by omega)
    · have z := List.all_eq_true.mp h0 _ ho
      obtain ⟨p, hp, z⟩ := List.any_eq_true.mp z
      obtain ⟨r2, w1, w2⟩ := sx_pm_ok (E := sx_KE T K) (F := F) (r0 := r) (n1 := K.2.2.2.2.2.1.2.2.2) z (Nat.le_refl _) rfl (fun s _ => by rw [hr]) hov (by rw [hF]; exact hon')
      exact ⟨p, hp, r2, w1, w2⟩
  · cases h0
def sx_chk (T : List sx_T × List (List Nat)) (Ks : List sx_K) (K : sx_K) (hs : List (sx_A × sx_L)) (f : Nat) : Bool := sx_chk2 T Ks K hs [] f
theorem sx_keeps {X : nt_X} {T : List sx_T × List (List Nat)} {Ks : List sx_K} {K : sx_K} {hs : List (sx_A × sx_L)} {f : Nat} (hK : ∀ K' ∈ Ks, sx_KOK X T K') (h : sx_chk T Ks K hs f = true) : sx_KOK X T K := sx_keeps2 (hi := []) hK (fun F _ H hH => (by cases hH)) h
